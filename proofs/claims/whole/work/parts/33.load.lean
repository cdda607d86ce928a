/-! LOADING a term into a text, on both sides -/
section X
variable {nw nx : Nat} {LO : Nat → Int64} {DO : Nat → UInt64} {d n : Nat} {A0 : Nat → Nat → Int32} {F0 : Nat → Int32} {sp : Nat → List Int32} {r e fl fc r2 e2 fl2 fc2 : Nat}
theorem gR_snoc {f : Nat → Int32} {l : List Int32} {k : Nat} (hk : k < l.length) (h : gR f (l.take k)) : gR (upd f k (l.getD k 32)) (l.take (k + 1)) := by
  have := h.push (l.getD k 32)
  rw [List.length_take, Nat.min_eq_left (Nat.le_of_lt hk)] at this
  have e1 : l.getD k 32 = l[k] := by rw [List.getD_eq_getElem?_getD, List.getElem?_eq_getElem hk]; rfl
  rw [List.take_succ, List.getElem?_eq_getElem hk]
  rw [e1] at this ⊢
  exact this
theorem s_load_loop (hxx : gXX nw r e fl fc nx r2 e2 fl2 fc2) (hT : gTb (A0 2) (A0 3) (A0 4) (A0 5) n sp) (h0 : F0 0 = nI n) {t : Nat} (ht : t < n) : ∀ (m k : Nat) (A : Nat → Nat → Int32) (F : Nat → Int32), k + m = (sp t).length → (∀ j, j ≠ r → A j = A0 j) → (∀ j, j ≠ fl → F j = F0 j) → gR (A r) ((sp t).take k) → F fl = nI k →
    ∃ A' F', (∀ j, j ≠ r → A' j = A0 j) ∧ (∀ j, j ≠ fl → F' j = F0 j) ∧ gR (A' r) (sp t) ∧ F' fl = nI (sp t).length ∧ ∀ (G : pG) (X : pX), gm_cl gm_mX1_load gm_tyf none (gm_Sp gm_MT (d + 6)) G X → G 42 [some (.ref 7), some (.ref 1), some (.int (nI t)), some (.int (nI (sp t).length)), some (.int (nI (sp t).length))] [] (gw A' F' nw nx LO DO) 0 0 → G 16 [some (.ref 7), some (.ref 1), some (.int (nI t)), some (.int (nI (sp t).length)), some (.int (nI k))] [] (gw A F nw nx LO DO) 0 0 := by
  have h40 := (hT.2 t ht).1
  obtain ⟨-, -, m3, -, m5, m6, m7, -, -, m10, -⟩ := hxx.rows
  intro m
  induction m with
  | zero =>
    intro k A F hk hA hF hr hfl
    have hk : k = (sp t).length := by omega
    subst hk
    rw [List.take_length] at hr
    refine ⟨A, F, hA, hF, hr, hfl, fun G X hC hX => ?_⟩
    refine gm_run1 hC [16, 42] 200 16 ?_
    exact gx_t (Int32.le_refl (nI (sp t).length)) hX
  | succ m ih =>
    intro k A F hk hA hF hr hfl
    have hkl : k < (sp t).length := by omega
    have hne : ∀ j, j < 6 → j ≠ r := by rcases m5 with rfl | rfl <;> omega
    have hne0 : 0 ≠ fl := by rcases m7 with rfl | rfl <;> decide
    have hT2 : gTb (A 2) (A 3) (A 4) (A 5) n sp := by
      rw [hA 2 (hne 2 (by omega)), hA 3 (hne 3 (by omega)), hA 4 (hne 4 (by omega)), hA 5 (hne 5 (by omega))]
      exact hT
    have hs := s_symbolOf (F := F) (nw := nw) (nx := nx) (LO := LO) (DO := DO) (d := d + 3) hT2 (by rw [hF 0 hne0]; exact h0) ht hkl
    have hch : 0 ≤ (sp t).getD k 32 ∧ (sp t).getD k 32 ≤ 65535 := by
      have e1 : (sp t).getD k 32 = (sp t)[k] := by rw [List.getD_eq_getElem?_getD, List.getElem?_eq_getElem hkl]; rfl
      rw [e1]
      exact hT.ch t ht _ (List.getElem_mem hkl)
    have hp := s_put (A := A) (nw := nw) (nx := nx) (LO := LO) (DO := DO) (d := d + 5) hxx.l hfl (by omega) ((sp t).getD k 32) hch
    obtain ⟨A', F', a1, a2, a3, a4, hrun⟩ := ih (k + 1) (va_up A r (upd (A r) k ((sp t).getD k 32))) (va_up F fl (nI (k + 1))) (by omega) (fun j hj => by rw [g_upn hj]; exact hA j hj) (fun j hj => by rw [g_upn hj]; exact hF j hj) (by rw [g_upe]; exact gR_snoc hkl hr) (by rw [g_upe])
    refine ⟨A', F', a1, a2, a3, a4, fun G X hC hX => ?_⟩
    have h9 := hrun G X hC hX
    rw [← nI_1 k] at h9
    rw [← nI_1 k] at hp
    have n1 : ¬ nI (sp t).length ≤ nI k := nI_ge (by omega) (by omega)
    clear ih hrun hne hne0 m3 m5 m6 m7 m10
    rcases hxx with ⟨rfl, rfl, rfl, rfl, rfl, rfl, rfl, rfl, rfl, rfl⟩ | ⟨rfl, rfl, rfl, rfl, rfl, rfl, rfl, rfl, rfl, rfl⟩
    all_goals
      refine gm_run1 hC [16, 42] 200 16 ?_
      exact gx_f n1 (Or.inl ⟨_, _, _, _, hs, Or.inl ⟨_, _, _, _, hp, h9⟩⟩)
theorem s_load {A : Nat → Nat → Int32} {F : Nat → Int32} (hxx : gXX nw r e fl fc nx r2 e2 fl2 fc2) (hT : gTb (A 2) (A 3) (A 4) (A 5) n sp) (h0 : F 0 = nI n) {t : Nat} (ht : t < n) : ∃ A' F', gRw0 A' F' nw nx (sp t) ∧ gKp A F A' F' ∧ gm_Sp gm_MT (d + 7) 2001 [.ref 7, .ref 1, .int (nI t)] (gw A F nw nx LO DO) (.inl none) (gw A' F' nw nx LO DO) 0 0 := by
  have h40 := (hT.2 t ht).1
  obtain ⟨-, -, m3, -, m5, m6, m7, -, -, m10, -, -, m13, m14, -⟩ := hxx.rows
  have hcl := s_clear (A := A) (F := F) (nw := nw) (nx := nx) (LO := LO) (DO := DO) (d := d + 5) hxx.l
  have hne0 : 0 ≠ fl := by rcases m7 with rfl | rfl <;> decide
  have hsz := s_sizeN (F := va_up F fl 0) (nw := nw) (nx := nx) (LO := LO) (DO := DO) (d := d + 4) hT (by rw [g_upn hne0]; exact h0) ht
  obtain ⟨A1, F1, a1, a2, a3, a4, hrun⟩ := s_load_loop (A0 := A) (F0 := F) (LO := LO) (DO := DO) (d := d) hxx hT h0 ht (sp t).length 0 A (va_up F fl 0) (by omega) (fun _ _ => rfl) (fun j hj => g_upn hj) (by intro i hi; simp at hi) (by rw [g_upe]; rfl)
  refine ⟨A1, F1, ⟨r, e, fl, fc, r2, e2, fl2, fc2, hxx, a4, h40, a3, hT.ch t ht, hT.V t ht⟩, ⟨?_, ?_⟩, gm_mk gm_mX1_load rfl ⟨Or.inr rfl, rfl, rfl, trivial⟩ (fun G X hC hX => ?_)⟩
  · intro j h1 h2 h3 h4
    exact a1 j (by rcases m5 with z | z <;> rw [z] <;> assumption)
  · intro j h1 h2 h3 h4 h5 h6
    exact a2 j (by rcases m7 with z | z <;> rw [z] <;> assumption)
  · have w42 : G 42 [some (.ref 7), some (.ref 1), some (.int (nI t)), some (.int (nI (sp t).length)), some (.int (nI (sp t).length))] [] (gw A1 F1 nw nx LO DO) 0 0 := by
      refine gm_run1 hC [16, 42] 200 42 ?_
      exact hX
    have h9 := hrun G X hC w42
    clear hrun hne0 m3 m5 m6 m7 m10 m13 m14
    rcases hxx with ⟨rfl, rfl, rfl, rfl, rfl, rfl, rfl, rfl, rfl, rfl⟩ | ⟨rfl, rfl, rfl, rfl, rfl, rfl, rfl, rfl, rfl, rfl⟩
    all_goals
      refine gm_runs hC [16, 42] 200 _ _ _ _ _ _ ?_
      exact Or.inl ⟨_, _, _, _, hcl, Or.inl ⟨_, _, _, _, hsz, h9⟩⟩
/-- writing a term behind what is written already -/
theorem gR_app1 {f : Nat → Int32} {o : List Int32} {k : Int32} (h : gR f o) : gR (upd f o.length k) (o ++ [k]) := h.push k
theorem s_write {K L R S : Nat → Int32} (hT : gTb K L R S n sp) : ∀ (m t : Nat) (A : Nat → Nat → Int32) (F : Nat → Int32) (o : List Int32), t < n → (sp t).length ≤ m → A 25 = K → A 26 = L → A 27 = R → F 24 = nI o.length → gR (A 33) o → o.length + (sp t).length ≤ 160 →
    ∃ f, gR f (o ++ sp t) ∧ gm_Sp gm_MT (d + m) 8021 [.ref 24, .int (nI t)] (gw A F nw nx LO DO) (.inl none) (gw (va_up A 33 f) (va_up F 24 (nI (o.length + (sp t).length))) nw nx LO DO) 0 0 := by
  have h120 := hT.1
  intro m
  induction m with
  | zero =>
    intro t A F o ht hm
    have := hT.pos ht
    omega
  | succ m ih =>
    intro t A F o ht hm hK hL hR hF hr hlen
    have hvt := vp_in_nI (n := t) (N := 120) (by omega) (by omega)
    have hcl : (nI t).toNatClampNeg = t := nI_clamp (by omega)
    have hpos := hT.pos ht
    have hvp : vp_in (F 24) 160 := by rw [hF]; exact vp_in_nI (by omega) (by omega)
    have e2 : (F 24).toNatClampNeg = o.length := by rw [hF]; exact nI_clamp (by omega)
    have e1 : F 24 + gm_lit 1 = nI (o.length + 1) := by rw [hF]; exact nI_1 _
    have eK : A 25 (nI t).toNatClampNeg = K t := by rw [hcl, hK]
    have eL : A 26 (nI t).toNatClampNeg = L t := by rw [hcl, hL]
    have eR : A 27 (nI t).toNatClampNeg = R t := by rw [hcl, hR]
    obtain ⟨h40, -, -, hrow⟩ := hT.2 t ht
    have g1 : gR (va_up A 33 (upd (A 33) (F 24).toNatClampNeg (A 25 (nI t).toNatClampNeg)) 33) (o ++ [K t]) := by rw [g_upe, e2, eK]; exact hr.push _
    have f1 : va_up F 24 (F 24 + gm_lit 1) 24 = nI (o ++ [K t]).length := by rw [g_upe, e1]; simp
    have neg : (-1 : Int32) < 0 := by decide
    rcases hrow with ⟨-, hl, hR1, hs⟩ | ⟨-, hR1, a, hat, hl, hs⟩ | ⟨-, a, b, hat, hbt, hl, hR1, hs⟩
    · refine ⟨va_up A 33 (upd (A 33) (F 24).toNatClampNeg (A 25 (nI t).toNatClampNeg)) 33, by rw [hs]; exact g1, gm_mk gm_mX7_write rfl ⟨Or.inr rfl, rfl, rfl, trivial⟩ (fun G X hC hX => ?_)⟩
      rw [g_upe, hs, show o.length + [K t].length = o.length + 1 from rfl, ← e1] at hX
      rw [hl] at eL
      rw [hR1] at eR
      refine gm_runs hC [] 200 _ _ _ _ _ _ ?_
      exact And.intro hvt (And.intro hvp (And.intro hvt (gx_t (show A 26 (nI t).toNatClampNeg < 0 from by rw [eL]; exact neg) (And.intro hvt (gx_t (show A 27 (nI t).toNatClampNeg < 0 from by rw [eR]; exact neg) hX)))))
    · rw [hs] at hlen hm
      simp only [List.length_cons] at hlen hm
      obtain ⟨f, hf, hw⟩ := ih a (va_up A 33 (upd (A 33) (F 24).toNatClampNeg (A 25 (nI t).toNatClampNeg))) (va_up F 24 (F 24 + gm_lit 1)) (o ++ [K t]) (by omega) (by omega) (by rw [g_upn (by decide)]; exact hK) (by rw [g_upn (by decide)]; exact hL) (by rw [g_upn (by decide)]; exact hR) f1 g1 (by simp; omega)
      rw [g_up2, g_up2, ← hl, ← eL] at hw
      refine ⟨f, by rw [hs]; simpa using hf, gm_mk gm_mX7_write rfl ⟨Or.inr rfl, rfl, rfl, trivial⟩ (fun G X hC hX => ?_)⟩
      have el : o.length + (sp t).length = (o ++ [K t]).length + (sp a).length := by rw [hs]; simp; omega
      rw [el] at hX
      rw [hR1] at eR
      have n1 : ¬ A 26 (nI t).toNatClampNeg < 0 := by rw [eL, hl]; exact nI_pos (by omega)
      clear ih
      refine gm_runs hC [] 200 _ _ _ _ _ _ ?_
      exact And.intro hvt (And.intro hvp (And.intro hvt (gx_f n1 (And.intro hvt (Or.inl ⟨_, _, _, _, hw, And.intro hvt (gx_t (show A 27 (nI t).toNatClampNeg < 0 from by rw [eR]; exact neg) hX)⟩)))))
    · rw [hs] at hlen hm
      simp only [List.length_cons, List.length_append] at hlen hm
      have hpa := hT.pos (t := a) (by omega)
      have hpb := hT.pos (t := b) (by omega)
      obtain ⟨f, hf, hw⟩ := ih a (va_up A 33 (upd (A 33) (F 24).toNatClampNeg (A 25 (nI t).toNatClampNeg))) (va_up F 24 (F 24 + gm_lit 1)) (o ++ [K t]) (by omega) (by omega) (by rw [g_upn (by decide)]; exact hK) (by rw [g_upn (by decide)]; exact hL) (by rw [g_upn (by decide)]; exact hR) f1 g1 (by simp; omega)
      rw [g_up2, g_up2, ← hl, ← eL] at hw
      obtain ⟨f', hf', hw'⟩ := ih b (va_up A 33 f) (va_up F 24 (nI ((o ++ [K t]).length + (sp a).length))) (o ++ [K t] ++ sp a) (by omega) (by omega) (by rw [g_upn (by decide)]; exact hK) (by rw [g_upn (by decide)]; exact hL) (by rw [g_upn (by decide)]; exact hR) (by rw [g_upe, List.length_append (as := o ++ [K t])]) (by rw [g_upe]; exact hf) (by simp; omega)
      rw [g_up2, g_up2, ← hR1, ← eR] at hw'
      refine ⟨f', by rw [hs]; simpa using hf', gm_mk gm_mX7_write rfl ⟨Or.inr rfl, rfl, rfl, trivial⟩ (fun G X hC hX => ?_)⟩
      have el : o.length + (sp t).length = (o ++ [K t] ++ sp a).length + (sp b).length := by rw [hs]; simp; omega
      rw [el] at hX
      have n1 : ¬ A 26 (nI t).toNatClampNeg < 0 := by rw [eL, hl]; exact nI_pos (by omega)
      have n2 : ¬ A 27 (nI t).toNatClampNeg < 0 := by rw [eR, hR1]; exact nI_pos (by omega)
      clear ih
      refine gm_runs hC [] 200 _ _ _ _ _ _ ?_
      exact And.intro hvt (And.intro hvp (And.intro hvt (gx_f n1 (And.intro hvt (Or.inl ⟨_, _, _, _, hw, And.intro hvt (gx_f n2 (And.intro hvt (Or.inl ⟨_, _, _, _, hw', hX⟩)))⟩)))))
theorem s_spell {A : Nat → Nat → Int32} {F : Nat → Int32} {S : Nat → Int32} (hT : gTb (A 25) (A 26) (A 27) S n sp) {t : Nat} (ht : t < n) : ∃ A' F', gMt A' F' (sp t) ∧ gKm A F A' F' ∧ gm_Sp gm_MT (d + 41) 8022 [.ref 24, .int (nI t)] (gw A F nw nx LO DO) (.inl none) (gw A' F' nw nx LO DO) 0 0 := by
  have h40 := (hT.2 t ht).1
  obtain ⟨f, hf, hw⟩ := s_write (nw := nw) (nx := nx) (LO := LO) (DO := DO) (d := d) hT 40 t A (va_up F 24 0) [] ht h40 rfl rfl rfl (by rw [g_upe]; rfl) (fun j hj => absurd hj (Nat.not_lt_zero _)) (by simp; omega)
  rw [g_up2, show ([] : List Int32).length + (sp t).length = (sp t).length from Nat.zero_add _] at hw
  refine ⟨va_up A 33 f, va_up F 24 (nI (sp t).length), ⟨?_, ?_, h40, hT.V t ht, hT.ch t ht⟩, ⟨fun j a b => g_upn a, fun j a b => g_upn a⟩, gm_mk gm_mX7_spell rfl ⟨Or.inr rfl, rfl, rfl, trivial⟩ (fun G X hC hX => ?_)⟩
  · rw [g_upe]; simpa using hf
  · rw [g_upe]
  · refine gm_runs hC [] 200 _ _ _ _ _ _ ?_
    exact Or.inl ⟨_, _, _, _, hw, hX⟩
end X