/-! THE FACES: sizes, symbols, regions, both sides -/
theorem in_16 (x : Int32) : (∃ r, r < 16 ∧ x = nI r) ∨ (gIn x 0 15 = false ∧ ¬ (0 ≤ x ∧ x < 16)) := by
  cases h : gIn x 0 15 with
  | true =>
    obtain ⟨j, hj, e⟩ := (gIn_iff (x := x) (n := 15) (by decide)).mp h
    exact Or.inl ⟨j, hj, e⟩
  | false =>
    refine Or.inr ⟨rfl, fun z => ?_⟩
    unfold gIn at h
    have := of_decide_eq_false h
    refine this ⟨z.1, ?_⟩
    have h2 := z.2
    rw [Int32.lt_iff_toInt_lt] at h2
    rw [Int32.le_iff_toInt_le]
    have e1 : (16 : Int32).toInt = 16 := by decide
    have e2 : (15 : Int32).toInt = 15 := by decide
    omega
section X
variable {nw nx : Nat} {LO : Nat → Int64} {DO : Nat → UInt64} {d : Nat} {A : Nat → Nat → Int32} {F : Nat → Int32} {rows : List (Int32 × Int32 × Int32)} {sp : Nat → List Int32}
theorem f_terms : gm_Sp gm_MT (d + 2) 7009 [.ref 0] (gw A F nw nx LO DO) (.inl (some (.int (F 0)))) (gw A F nw nx LO DO) 0 0 := by
  have h := s_howManyT (A := A) (F := F) (nw := nw) (nx := nx) (LO := LO) (DO := DO) (d := d)
  refine gm_mk gm_mX6_terms rfl ⟨Or.inr rfl, rfl, rfl, trivial⟩ (fun G X hC hX => ?_)
  refine gm_runs hC [] 200 _ _ _ _ _ _ ?_
  exact Or.inl ⟨_, _, _, _, h, hX⟩
theorem f_size (hR : gRp A rows sp) (hF : F 0 = nI rows.length) {t : Nat} (ht : t < rows.length) : gm_Sp gm_MT (d + 3) 7010 [.ref 0, .int (nI t)] (gw A F nw nx LO DO) (.inl (some (.int (nI (sp t).length)))) (gw A F nw nx LO DO) 0 0 := by
  have hc := s_checkTerm1 (A := A) (F := F) (nw := nw) (nx := nx) (LO := LO) (DO := DO) (d := d) hR.1.1 hF ht
  have hs := s_sizeN (A := A) (F := F) (nw := nw) (nx := nx) (LO := LO) (DO := DO) (d := d) hR.1 hF ht
  refine gm_mk gm_mX6_size rfl ⟨Or.inr rfl, rfl, rfl, trivial⟩ (fun G X hC hX => ?_)
  refine gm_runs hC [] 200 _ _ _ _ _ _ ?_
  exact Or.inl ⟨_, _, _, _, hc, Or.inl ⟨_, _, _, _, hs, hX⟩⟩
theorem m_size (hR : gRm A rows sp) (hF : F 21 = nI rows.length) {t : Nat} (ht : t < rows.length) : gm_Sp gm_MT (d + 3) 8020 [.ref 24, .int (nI t)] (gw A F nw nx LO DO) (.inl (some (.int (nI (sp t).length)))) (gw A (va_up F 20 0) nw nx LO DO) 0 0 := by
  have hn := hR.1.1
  have hc := s_noTerm1 (A := A) (F := F) (nw := nw) (nx := nx) (LO := LO) (DO := DO) (d := d) hR.1.1 hF ht
  have k0 := nI_clamp (n := t) (by omega)
  have e := (hR.1.2 t ht).2.1
  refine gm_mk gm_mX7_size rfl ⟨Or.inr rfl, rfl, rfl, trivial⟩ (fun G X hC hX => ?_)
  rw [← e, ← k0] at hX
  rw [k0] at hX
  refine gm_runs hC [] 200 _ _ _ _ _ _ ?_
  refine Or.inl ⟨_, _, _, _, hc, gx_t (show (0 : Int32) = 0 from rfl) (And.intro (nI_in (by omega) (by decide)) ?_)⟩
  show X (.inl (some (.int (A 28 (nI t).toNatClampNeg)))) (gw A (va_up F 20 0) nw nx LO DO) 0 0
  rw [k0]
  exact hX
theorem f_symbol1 (hR : gRp A rows sp) (hF : F 0 = nI rows.length) {t k : Nat} (ht : t < rows.length) (hk : k < (sp t).length) : gm_Sp gm_MT (d + 4) 7011 [.ref 0, .int (nI t), .int (nI k)] (gw A F nw nx LO DO) (.inl (some (.int ((sp t).getD k 32)))) (gw A F nw nx LO DO) 0 0 := by
  have hl := (hR.1.2 t ht).1
  have hc := s_checkTerm1 (A := A) (F := F) (nw := nw) (nx := nx) (LO := LO) (DO := DO) (d := d + 1) hR.1.1 hF ht
  have hs := s_sizeN (A := A) (F := F) (nw := nw) (nx := nx) (LO := LO) (DO := DO) (d := d + 1) hR.1 hF ht
  have hy := s_symbolOf (A := A) (F := F) (nw := nw) (nx := nx) (LO := LO) (DO := DO) (d := d) hR.1 hF ht hk
  have hch : 0 ≤ (sp t).getD k 32 ∧ (sp t).getD k 32 ≤ 65535 := by
    refine hR.1.ch t ht _ ?_
    rw [List.getD_eq_getElem?_getD, List.getElem?_eq_getElem hk]
    exact List.getElem_mem hk
  refine gm_mk gm_mX6_symbol rfl ⟨Or.inr rfl, rfl, rfl, trivial⟩ (fun G X hC hX => ?_)
  refine gm_runs hC [] 200 _ _ _ _ _ _ ?_
  exact Or.inl ⟨_, _, _, _, hc, gx_f (show ¬ nI k < 0 from nI_pos (by omega)) (Or.inl ⟨_, _, _, _, hs, gx_t (show nI k < nI (sp t).length from nI_lt hk (by omega)) (Or.inl ⟨_, _, _, _, hy, gx_c hX hch rfl rfl⟩)⟩)⟩
theorem f_symbol2 (hR : gRp A rows sp) (hF : F 0 = nI rows.length) {t : Nat} (ht : t < rows.length) {y : Int32} (hy : ∀ k, k < (sp t).length → ¬ y = nI k) : gm_Sp gm_MT (d + 4) 7011 [.ref 0, .int (nI t), .int y] (gw A F nw nx LO DO) (.inr "java/util/NoSuchElementException") (gw A F nw nx LO DO) 1 6 := by
  have hl := (hR.1.2 t ht).1
  have hc := s_checkTerm1 (A := A) (F := F) (nw := nw) (nx := nx) (LO := LO) (DO := DO) (d := d + 1) hR.1.1 hF ht
  have hs := s_sizeN (A := A) (F := F) (nw := nw) (nx := nx) (LO := LO) (DO := DO) (d := d + 1) hR.1 hF ht
  refine gm_mk gm_mX6_symbol rfl ⟨Or.inr rfl, rfl, rfl, rfl, rfl, gm_plain⟩ (fun G X hC hX => ?_)
  refine gm_runs hC [] 200 _ _ _ _ _ _ ?_
  rcases pk_ix y (n := (sp t).length) (by omega) with h | h | ⟨k, hk, e⟩
  · exact Or.inl ⟨_, _, _, _, hc, gx_t h hX⟩
  · have h0 : ¬ y < 0 := fun z => by
      rw [Int32.lt_iff_toInt_lt] at z
      rw [Int32.le_iff_toInt_le, nI_toInt (by omega)] at h
      have e0 : (0 : Int32).toInt = 0 := by decide
      omega
    exact Or.inl ⟨_, _, _, _, hc, gx_f h0 (Or.inl ⟨_, _, _, _, hs, gx_f (show ¬ y < nI (sp t).length from fun z => (i_lt_ge.mpr h) z) hX⟩)⟩
  · exact absurd e (hy k hk)
theorem m_symbol1 (hR : gRm A rows sp) (hF : F 21 = nI rows.length) {t k : Nat} (ht : t < rows.length) (hk : k < (sp t).length) : ∃ A' F', gKs A F A' F' ∧ F' 20 = 0 ∧ gm_Sp gm_MT (d + 42) 8023 [.ref 24, .int (nI t), .int (nI k)] (gw A F nw nx LO DO) (.inl (some (.int ((sp t).getD k 32)))) (gw A' F' nw nx LO DO) 0 0 := by
  have hn := hR.1.1
  have hl := (hR.1.2 t ht).1
  have k0 := nI_clamp (n := t) (by omega)
  have kk := nI_clamp (n := k) (by omega)
  have e := (hR.1.2 t ht).2.1
  have hc := s_noTerm1 (A := A) (F := F) (nw := nw) (nx := nx) (LO := LO) (DO := DO) (d := d + 39) hR.1.1 hF ht
  obtain ⟨A1, F1, m1, k1, h1⟩ := s_spell (nw := nw) (nx := nx) (LO := LO) (DO := DO) (d := d) (A := A) (F := va_up (va_up F 20 0) 20 0) hR.1 ht
  have hi := s_isIn3 (A := A) (F := va_up F 20 0) (nw := nw) (nx := nx) (LO := LO) (DO := DO) (d := d + 40) (nI k) 0 (nI (sp t).length - 1)
  rw [gIn_t hk (by omega)] at hi
  have hch : 0 ≤ (sp t).getD k 32 ∧ (sp t).getD k 32 ≤ 65535 := by
    refine m1.2.2.2.2 _ ?_
    rw [List.getD_eq_getElem?_getD, List.getElem?_eq_getElem hk]
    exact List.getElem_mem hk
  have et : A1 33 k = (sp t).getD k 32 := by
    have := m1.1 k hk
    rw [List.getD_eq_getElem?_getD, this]; rfl
  refine ⟨A1, F1, ((gKs.th A F 0).trans (gKs.th A _ 0)).trans k1.s, by rw [k1.2 20 (by decide) (by decide), g_upe], gm_mk gm_mX7_symbol rfl ⟨Or.inr rfl, rfl, rfl, trivial⟩ (fun G X hC hX => ?_)⟩
  refine gm_runs hC [22] 200 _ _ _ _ _ _ ?_
  refine Or.inl ⟨_, _, _, _, hc, gx_t (show (0 : Int32) = 0 from rfl) (And.intro (nI_in (by omega) (by decide)) ?_)⟩
  rw [k0, e]
  refine gm_run1 hC [] 200 22 ?_
  refine Or.inl ⟨_, _, _, _, hi, gx_f (show ¬ (1 : Int32) = 0 from by decide) (gx_t (show (0 : Int32) = 0 from rfl) (Or.inl ⟨_, _, _, _, h1, And.intro (nI_in (by omega) (by decide)) ?_⟩))⟩
  rw [kk, et]
  exact gx_c hX hch (i2c_id hch) rfl
theorem m_symbol2 (hR : gRm A rows sp) (hF : F 21 = nI rows.length) {t : Nat} (ht : t < rows.length) {y : Int32} (hy : ∀ k, k < (sp t).length → ¬ y = nI k) : gm_Sp gm_MT (d + 4) 8023 [.ref 24, .int (nI t), .int y] (gw A F nw nx LO DO) (.inl (some (.int 97))) (gw A (va_up (va_up F 20 0) 20 2) nw nx LO DO) 0 0 := by
  have hn := hR.1.1
  have hl := (hR.1.2 t ht).1
  have hpos := hR.1.pos ht
  have k0 := nI_clamp (n := t) (by omega)
  have e := (hR.1.2 t ht).2.1
  have hc := s_noTerm1 (A := A) (F := F) (nw := nw) (nx := nx) (LO := LO) (DO := DO) (d := d + 1) hR.1.1 hF ht
  have hi := s_isIn3 (A := A) (F := va_up F 20 0) (nw := nw) (nx := nx) (LO := LO) (DO := DO) (d := d + 2) y 0 (nI (sp t).length - 1)
  have hf : gIn y 0 (nI (sp t).length - 1) = false := by
    rcases gT_cases y (n := (sp t).length) (by omega) with ⟨k, hk, e2, -⟩ | ⟨hg, -⟩
    · exact absurd e2 (hy k hk)
    · exact gIn_f (by omega) hg
  rw [hf] at hi
  refine gm_mk gm_mX7_symbol rfl ⟨Or.inr rfl, rfl, rfl, trivial⟩ (fun G X hC hX => ?_)
  refine gm_runs hC [22] 200 _ _ _ _ _ _ ?_
  refine Or.inl ⟨_, _, _, _, hc, gx_t (show (0 : Int32) = 0 from rfl) (And.intro (nI_in (by omega) (by decide)) ?_)⟩
  rw [k0, e]
  refine gm_run1 hC [] 200 22 ?_
  exact Or.inl ⟨_, _, _, _, hi, gx_t (show (0 : Int32) = 0 from rfl) (gx_f (show ¬ (2 : Int32) = 0 from by decide) (gx_c (r := 97) hX (by decide) rfl rfl))⟩
theorem f_regions (hR : gRp A rows sp) (hF : F 0 = nI rows.length) {t : Nat} (ht : t < rows.length) : gm_Sp gm_MT (d + 3) 7017 [.ref 0, .int (nI t)] (gw A F nw nx LO DO) (.inl (some (.int (bcF (A 6 t))))) (gw A F nw nx LO DO) 0 0 := by
  have hc := s_checkTerm1 (A := A) (F := F) (nw := nw) (nx := nx) (LO := LO) (DO := DO) (d := d) hR.1.1 hF ht
  have hv := s_coverOf (A := A) (F := F) (nw := nw) (nx := nx) (LO := LO) (DO := DO) (d := d) (nI t) hR.1.1 hF
  rw [gT_nI ht hR.1.1] at hv
  have hb := s_bitCount (A := A) (F := F) (nw := nw) (nx := nx) (LO := LO) (DO := DO) (d := d + 1) (A 6 t)
  refine gm_mk gm_mX6_regions rfl ⟨Or.inr rfl, rfl, rfl, trivial⟩ (fun G X hC hX => ?_)
  refine gm_runs hC [] 200 _ _ _ _ _ _ ?_
  exact Or.inl ⟨_, _, _, _, hc, Or.inl ⟨_, _, _, _, hv, Or.inl ⟨_, _, _, _, hb, hX⟩⟩⟩
theorem m_regions (hR : gRm A rows sp) (hF : F 21 = nI rows.length) {t : Nat} (ht : t < rows.length) : gm_Sp gm_MT (d + 3) 8024 [.ref 24, .int (nI t)] (gw A F nw nx LO DO) (.inl (some (.int (bcF (A 29 t))))) (gw A (va_up F 20 0) nw nx LO DO) 0 0 := by
  have hn := hR.1.1
  have hc := s_noTerm1 (A := A) (F := F) (nw := nw) (nx := nx) (LO := LO) (DO := DO) (d := d) hR.1.1 hF ht
  have k0 := nI_clamp (n := t) (by omega)
  have hb := s_bitCount (A := A) (F := va_up F 20 0) (nw := nw) (nx := nx) (LO := LO) (DO := DO) (d := d + 1) (A 29 t)
  refine gm_mk gm_mX7_regions rfl ⟨Or.inr rfl, rfl, rfl, trivial⟩ (fun G X hC hX => ?_)
  refine gm_runs hC [] 200 _ _ _ _ _ _ ?_
  refine Or.inl ⟨_, _, _, _, hc, gx_t (show (0 : Int32) = 0 from rfl) (And.intro (nI_in (by omega) (by decide)) ?_)⟩
  rw [k0]
  exact Or.inl ⟨_, _, _, _, hb, hX⟩
theorem f_covers1 (hR : gRp A rows sp) (hF : F 0 = nI rows.length) {t r : Nat} (ht : t < rows.length) (hr : r < 16) : gm_Sp gm_MT (d + 3) 7018 [.ref 0, .int (nI t), .int (nI r)] (gw A F nw nx LO DO) (.inl (some (.int (gB (sIn (nI r) (A 6 t)))))) (gw A F nw nx LO DO) 0 0 := by
  have hc := s_checkTerm1 (A := A) (F := F) (nw := nw) (nx := nx) (LO := LO) (DO := DO) (d := d) hR.1.1 hF ht
  have hc2 := s_checkRegion1 (A := A) (F := F) (nw := nw) (nx := nx) (LO := LO) (DO := DO) (d := d + 1) (x := nI r) (nI_pos' (by omega)) (nI_lt (b := 16) hr (by decide))
  have hv := s_coverOf (A := A) (F := F) (nw := nw) (nx := nx) (LO := LO) (DO := DO) (d := d) (nI t) hR.1.1 hF
  rw [gT_nI ht hR.1.1] at hv
  have hi := s_isIn (A := A) (F := F) (nw := nw) (nx := nx) (LO := LO) (DO := DO) (d := d + 1) (nI r) (A 6 t)
  refine gm_mk gm_mX6_covers rfl ⟨Or.inr rfl, rfl, rfl, trivial⟩ (fun G X hC hX => ?_)
  refine gm_runs hC [] 200 _ _ _ _ _ _ ?_
  exact Or.inl ⟨_, _, _, _, hc, Or.inl ⟨_, _, _, _, hc2, Or.inl ⟨_, _, _, _, hv, Or.inl ⟨_, _, _, _, hi, gx_z hX (gB_01 _) rfl rfl⟩⟩⟩⟩
theorem f_coversBy1 (hR : gRp A rows sp) (hF : F 0 = nI rows.length) {t r : Nat} (ht : t < rows.length) (hr : r < 16) : gm_Sp gm_MT (d + 44) 7019 [.ref 0, .int (nI t), .int (nI r)] (gw A F nw nx LO DO) (.inl (some (.int (gB (sIn (nI r) (A 6 t)))))) (gw A F nw nx LO DO) 0 0 := by
  have hc := s_checkTerm1 (A := A) (F := F) (nw := nw) (nx := nx) (LO := LO) (DO := DO) (d := d + 41) hR.1.1 hF ht
  have hc2 := s_checkRegion1 (A := A) (F := F) (nw := nw) (nx := nx) (LO := LO) (DO := DO) (d := d + 42) (x := nI r) (nI_pos' (by omega)) (nI_lt (b := 16) hr (by decide))
  have hv := s_reaches (nw := nw) (nx := nx) (LO := LO) (DO := DO) (d := d) hR hF hr ht
  refine gm_mk gm_mX6_coversByTerm rfl ⟨Or.inr rfl, rfl, rfl, trivial⟩ (fun G X hC hX => ?_)
  refine gm_runs hC [] 200 _ _ _ _ _ _ ?_
  exact Or.inl ⟨_, _, _, _, hc, Or.inl ⟨_, _, _, _, hc2, Or.inl ⟨_, _, _, _, hv, gx_z hX (gB_01 _) rfl rfl⟩⟩⟩

theorem f_covers2 {t : Nat} {n : Nat} {y : Int32} (hn : n ≤ 120) (hF : F 0 = nI n) (ht : t < n) (hy : ¬ (0 ≤ y ∧ y < 16)) : gm_Sp gm_MT (d + 3) 7018 [.ref 0, .int (nI t), .int y] (gw A F nw nx LO DO) (.inr "java/lang/IllegalArgumentException") (gw A F nw nx LO DO) 1 6 := by
  have hc := s_checkTerm1 (A := A) (F := F) (nw := nw) (nx := nx) (LO := LO) (DO := DO) (d := d) hn hF ht
  have hc2 := s_checkRegion2 (A := A) (F := F) (nw := nw) (nx := nx) (LO := LO) (DO := DO) (d := d + 1) hy
  refine gm_mk gm_mX6_covers rfl ⟨Or.inr rfl, rfl, rfl, rfl, rfl, gm_plain⟩ (fun G X hC hX => ?_)
  refine gm_runs hC [] 200 _ _ _ _ _ _ ?_
  exact Or.inl ⟨_, _, _, _, hc, Or.inr ⟨_, _, _, _, hc2, hX⟩⟩
theorem f_coversByTerm2 {t : Nat} {n : Nat} {y : Int32} (hn : n ≤ 120) (hF : F 0 = nI n) (ht : t < n) (hy : ¬ (0 ≤ y ∧ y < 16)) : gm_Sp gm_MT (d + 3) 7019 [.ref 0, .int (nI t), .int y] (gw A F nw nx LO DO) (.inr "java/lang/IllegalArgumentException") (gw A F nw nx LO DO) 1 6 := by
  have hc := s_checkTerm1 (A := A) (F := F) (nw := nw) (nx := nx) (LO := LO) (DO := DO) (d := d) hn hF ht
  have hc2 := s_checkRegion2 (A := A) (F := F) (nw := nw) (nx := nx) (LO := LO) (DO := DO) (d := d + 1) hy
  refine gm_mk gm_mX6_coversByTerm rfl ⟨Or.inr rfl, rfl, rfl, rfl, rfl, gm_plain⟩ (fun G X hC hX => ?_)
  refine gm_runs hC [] 200 _ _ _ _ _ _ ?_
  exact Or.inl ⟨_, _, _, _, hc, Or.inr ⟨_, _, _, _, hc2, hX⟩⟩
theorem m_covers1 (hR : gRm A rows sp) (hF : F 21 = nI rows.length) {t r : Nat} (ht : t < rows.length) (hr : r < 16) : gm_Sp gm_MT (d + 3) 8025 [.ref 24, .int (nI t), .int (nI r)] (gw A F nw nx LO DO) (.inl (some (.int (gB (sIn (nI r) (A 29 t)))))) (gw A (va_up (va_up F 20 0) 20 0) nw nx LO DO) 0 0 := by
  have hn := hR.1.1
  have hc := s_noTerm1 (A := A) (F := F) (nw := nw) (nx := nx) (LO := LO) (DO := DO) (d := d) hR.1.1 hF ht
  have k0 := nI_clamp (n := t) (by omega)
  have hi := s_isIn3 (A := A) (F := va_up F 20 0) (nw := nw) (nx := nx) (LO := LO) (DO := DO) (d := d + 1) (nI r) 0 15
  rw [show gIn (nI r) 0 15 = true from (gIn_iff (x := nI r) (n := 15) (by decide)).mpr ⟨r, hr, rfl⟩] at hi
  refine gm_mk gm_mX7_covers rfl ⟨Or.inr rfl, rfl, rfl, trivial⟩ (fun G X hC hX => ?_)
  unfold sIn at hX
  refine gm_runs hC [] 200 _ _ _ _ _ _ ?_
  refine Or.inl ⟨_, _, _, _, hc, gx_t (show (0 : Int32) = 0 from rfl) (Or.inl ⟨_, _, _, _, hi, gx_f (show ¬ (1 : Int32) = 0 from by decide) (gx_f (show ¬ ¬ (0 : Int32) = 0 from fun z => z rfl) (And.intro (nI_in (by omega) (by decide)) ?_))⟩)⟩
  rw [k0]
  by_cases c : (A 29 t >>> (nI r &&& 31)) &&& 1 = 1
  · rw [decide_eq_true c] at hX
    exact gx_f (show ¬ ¬ (A 29 t >>> (nI r &&& 31)) &&& 1 = 1 from fun z => z c) (gx_z hX (Or.inr rfl) rfl rfl)
  · rw [decide_eq_false c] at hX
    exact gx_t c (gx_z hX (Or.inl rfl) rfl rfl)
theorem m_covers2 {n t : Nat} {y : Int32} (hn : n ≤ 120) (hF : F 21 = nI n) (ht : t < n) (hy : gIn y 0 15 = false) : gm_Sp gm_MT (d + 3) 8025 [.ref 24, .int (nI t), .int y] (gw A F nw nx LO DO) (.inl (some (.int 0))) (gw A (va_up (va_up F 20 0) 20 2) nw nx LO DO) 0 0 := by
  have hc := s_noTerm1 (A := A) (F := F) (nw := nw) (nx := nx) (LO := LO) (DO := DO) (d := d) hn hF ht
  have hi := s_isIn3 (A := A) (F := va_up F 20 0) (nw := nw) (nx := nx) (LO := LO) (DO := DO) (d := d + 1) y 0 15
  rw [hy] at hi
  refine gm_mk gm_mX7_covers rfl ⟨Or.inr rfl, rfl, rfl, trivial⟩ (fun G X hC hX => ?_)
  refine gm_runs hC [] 200 _ _ _ _ _ _ ?_
  exact Or.inl ⟨_, _, _, _, hc, gx_t (show (0 : Int32) = 0 from rfl) (Or.inl ⟨_, _, _, _, hi, gx_t (show (0 : Int32) = 0 from rfl) (gx_t (show ¬ (2 : Int32) = 0 from by decide) (gx_z hX (Or.inl rfl) rfl rfl))⟩)⟩
theorem m_coversBy {x y v : Int32} {h1 : pH} (h : gm_Sp gm_MT d 8025 [.ref 24, .int x, .int y] (gw A F nw nx LO DO) (.inl (some (.int v))) h1 0 0) (hl : (gw A F nw nx LO DO).length = h1.length) (hv : v = 0 ∨ v = 1) : gm_Sp gm_MT (d + 1) 8026 [.ref 24, .int x, .int y] (gw A F nw nx LO DO) (.inl (some (.int v))) h1 0 0 := by
  refine gm_mk gm_mX7_coversByTerm rfl ⟨Or.inr hl.symm, rfl, rfl, trivial⟩ (fun G X hC hX => ?_)
  refine gm_runs hC [] 200 _ _ _ _ _ _ ?_
  exact Or.inl ⟨_, _, _, _, h, gx_z hX hv rfl rfl⟩
theorem m_primesBy {x v : Int32} {h1 : pH} (h : gm_Sp gm_MT d 8044 [.ref 24, .int x] (gw A F nw nx LO DO) (.inl (some (.int v))) h1 0 0) (hl : (gw A F nw nx LO DO).length = h1.length) : gm_Sp gm_MT (d + 1) 8045 [.ref 24, .int x] (gw A F nw nx LO DO) (.inl (some (.int v))) h1 0 0 := by
  refine gm_mk gm_mX7_primesByTrying rfl ⟨Or.inr hl.symm, rfl, rfl, trivial⟩ (fun G X hC hX => ?_)
  refine gm_runs hC [] 200 _ _ _ _ _ _ ?_
  exact Or.inl ⟨_, _, _, _, h, hX⟩
theorem f_isEqual1 (hR : gRp A rows sp) (hF : F 0 = nI rows.length) {a b : Nat} (ha : a < rows.length) (hb : b < rows.length) : gm_Sp gm_MT (d + 3) 7020 [.ref 0, .int (nI a), .int (nI b)] (gw A F nw nx LO DO) (.inl (some (.int (gB (decide (A 6 a = A 6 b)))))) (gw A F nw nx LO DO) 0 0 := by
  have ca := s_checkTerm1 (A := A) (F := F) (nw := nw) (nx := nx) (LO := LO) (DO := DO) (d := d) hR.1.1 hF ha
  have cb := s_checkTerm1 (A := A) (F := F) (nw := nw) (nx := nx) (LO := LO) (DO := DO) (d := d) hR.1.1 hF hb
  have va := s_coverOf (A := A) (F := F) (nw := nw) (nx := nx) (LO := LO) (DO := DO) (d := d) (nI a) hR.1.1 hF
  have vb := s_coverOf (A := A) (F := F) (nw := nw) (nx := nx) (LO := LO) (DO := DO) (d := d) (nI b) hR.1.1 hF
  rw [gT_nI ha hR.1.1] at va
  rw [gT_nI hb hR.1.1] at vb
  refine gm_mk gm_mX6_isEqual rfl ⟨Or.inr rfl, rfl, rfl, trivial⟩ (fun G X hC hX => ?_)
  refine gm_runs hC [] 200 _ _ _ _ _ _ ?_
  by_cases c : A 6 a = A 6 b
  · rw [decide_eq_true c] at hX
    exact Or.inl ⟨_, _, _, _, ca, Or.inl ⟨_, _, _, _, cb, Or.inl ⟨_, _, _, _, va, Or.inl ⟨_, _, _, _, vb, gx_f (show ¬ ¬ A 6 a = A 6 b from fun z => z c) (gx_z hX (Or.inr rfl) rfl rfl)⟩⟩⟩⟩
  · rw [decide_eq_false c] at hX
    exact Or.inl ⟨_, _, _, _, ca, Or.inl ⟨_, _, _, _, cb, Or.inl ⟨_, _, _, _, va, Or.inl ⟨_, _, _, _, vb, gx_t c (gx_z hX (Or.inl rfl) rfl rfl)⟩⟩⟩⟩
theorem f_isEqual2 {x y : Int32} {n : Nat} (hn : n ≤ 120) (hF : F 0 = nI n) (hxy : gT n x = none ∨ gT n y = none) : gm_Sp gm_MT (d + 3) 7020 [.ref 0, .int x, .int y] (gw A F nw nx LO DO) (.inr "java/lang/IndexOutOfBoundsException") (gw A F nw nx LO DO) 1 6 := by
  refine gm_mk gm_mX6_isEqual rfl ⟨Or.inr rfl, rfl, rfl, rfl, rfl, gm_plain⟩ (fun G X hC hX => ?_)
  rcases gT_cases x hn with ⟨a, ha, rfl, -⟩ | ⟨hx, -⟩
  · have ca := s_checkTerm1 (A := A) (F := F) (nw := nw) (nx := nx) (LO := LO) (DO := DO) (d := d) hn hF ha
    have hy : gT n y = none := hxy.elim (fun z => by rw [gT_nI ha hn] at z; cases z) id
    have cb := s_checkTerm2 (A := A) (F := F) (nw := nw) (nx := nx) (LO := LO) (DO := DO) (d := d) hn hF hy
    refine gm_runs hC [] 200 _ _ _ _ _ _ ?_
    exact Or.inl ⟨_, _, _, _, ca, Or.inr ⟨_, _, _, _, cb, hX⟩⟩
  · have ca := s_checkTerm2 (A := A) (F := F) (nw := nw) (nx := nx) (LO := LO) (DO := DO) (d := d) hn hF hx
    refine gm_runs hC [] 200 _ _ _ _ _ _ ?_
    exact Or.inr ⟨_, _, _, _, ca, hX⟩
theorem m_isEqual1 (hR : gRm A rows sp) (hF : F 21 = nI rows.length) {a b : Nat} (ha : a < rows.length) (hb : b < rows.length) : gm_Sp gm_MT (d + 3) 8027 [.ref 24, .int (nI a), .int (nI b)] (gw A F nw nx LO DO) (.inl (some (.int (gB (decide (A 29 a = A 29 b)))))) (gw A (va_up (va_up F 20 0) 20 0) nw nx LO DO) 0 0 := by
  have hn := hR.1.1
  have ca := s_noTerm1 (A := A) (F := F) (nw := nw) (nx := nx) (LO := LO) (DO := DO) (d := d) hR.1.1 hF ha
  have cb := s_noTerm1 (A := A) (F := va_up F 20 0) (nw := nw) (nx := nx) (LO := LO) (DO := DO) (d := d) hR.1.1 (by rw [g_upn (by decide)]; exact hF) hb
  have ka := nI_clamp (n := a) (by omega)
  have kb := nI_clamp (n := b) (by omega)
  refine gm_mk gm_mX7_isEqual rfl ⟨Or.inr rfl, rfl, rfl, trivial⟩ (fun G X hC hX => ?_)
  refine gm_runs hC [] 200 _ _ _ _ _ _ ?_
  by_cases c : A 29 a = A 29 b
  · rw [decide_eq_true c] at hX
    exact Or.inl ⟨_, _, _, _, ca, gx_f (show ¬ ¬ (0 : Int32) = 0 from fun z => z rfl) (Or.inl ⟨_, _, _, _, cb, gx_f (show ¬ ¬ (0 : Int32) = 0 from fun z => z rfl) (And.intro (nI_in (by omega) (by decide)) (And.intro (nI_in (by omega) (by decide)) (gx_f (show ¬ ¬ A 29 (nI a).toNatClampNeg = A 29 (nI b).toNatClampNeg from by rw [ka, kb]; exact fun z => z c) (gx_z hX (Or.inr rfl) rfl rfl))))⟩)⟩
  · rw [decide_eq_false c] at hX
    exact Or.inl ⟨_, _, _, _, ca, gx_f (show ¬ ¬ (0 : Int32) = 0 from fun z => z rfl) (Or.inl ⟨_, _, _, _, cb, gx_f (show ¬ ¬ (0 : Int32) = 0 from fun z => z rfl) (And.intro (nI_in (by omega) (by decide)) (And.intro (nI_in (by omega) (by decide)) (gx_t (show ¬ A 29 (nI a).toNatClampNeg = A 29 (nI b).toNatClampNeg from by rw [ka, kb]; exact c) (gx_z hX (Or.inl rfl) rfl rfl))))⟩)⟩
theorem m_isEqual2 {x y : Int32} {n : Nat} (hn : n ≤ 120) (hF : F 21 = nI n) (hxy : gT n x = none ∨ gT n y = none) : ∃ F', gKz A F A F' ∧ F' 20 = 1 ∧ gm_Sp gm_MT (d + 3) 8027 [.ref 24, .int x, .int y] (gw A F nw nx LO DO) (.inl (some (.int 0))) (gw A F' nw nx LO DO) 0 0 := by
  rcases gT_cases x hn with ⟨a, ha, rfl, -⟩ | ⟨hx, -⟩
  · have ca := s_noTerm1 (A := A) (F := F) (nw := nw) (nx := nx) (LO := LO) (DO := DO) (d := d) hn hF ha
    have hy : gT n y = none := hxy.elim (fun z => by rw [gT_nI ha hn] at z; cases z) id
    have cb := s_noTerm2 (A := A) (F := va_up F 20 0) (nw := nw) (nx := nx) (LO := LO) (DO := DO) (d := d) hn (by rw [g_upn (by decide)]; exact hF) hy
    refine ⟨_, (gKz.th A F 0).trans (gKz.th A _ 1), g_upe, gm_mk gm_mX7_isEqual rfl ⟨Or.inr rfl, rfl, rfl, trivial⟩ (fun G X hC hX => ?_)⟩
    refine gm_runs hC [] 200 _ _ _ _ _ _ ?_
    exact Or.inl ⟨_, _, _, _, ca, gx_f (show ¬ ¬ (0 : Int32) = 0 from fun z => z rfl) (Or.inl ⟨_, _, _, _, cb, gx_t (show ¬ (1 : Int32) = 0 from by decide) (gx_z hX (Or.inl rfl) rfl rfl)⟩)⟩
  · have ca := s_noTerm2 (A := A) (F := F) (nw := nw) (nx := nx) (LO := LO) (DO := DO) (d := d) hn hF hx
    refine ⟨_, gKz.th A F 1, g_upe, gm_mk gm_mX7_isEqual rfl ⟨Or.inr rfl, rfl, rfl, trivial⟩ (fun G X hC hX => ?_)⟩
    refine gm_runs hC [] 200 _ _ _ _ _ _ ?_
    exact Or.inl ⟨_, _, _, _, ca, gx_t (show ¬ (1 : Int32) = 0 from by decide) (gx_z hX (Or.inl rfl) rfl rfl)⟩
end X