/-! TABLES of terms, and what they spell -/
/-- the signs of terms -/
def gSg (k : Int32) : Prop := k = 48 ∨ k = 49 ∨ k = 97 ∨ k = 98 ∨ k = 99 ∨ k = 100 ∨ k = 67 ∨ k = 68 ∨ k = 73 ∨ k = 83 ∨ k = 85
theorem gSg_ch {k : Int32} (h : gSg k) : 0 ≤ k ∧ k ≤ 65535 := by
  rcases h with rfl | rfl | rfl | rfl | rfl | rfl | rfl | rfl | rfl | rfl | rfl <;> decide
/-- a row of a table: its parts come before it; sp is what it spells -/
def gTr (K L R : Nat → Int32) (sp : Nat → List Int32) (t : Nat) : Prop := (tAr (K t) = 0 ∧ L t = -1 ∧ R t = -1 ∧ sp t = [K t]) ∨ (tAr (K t) = 1 ∧ R t = -1 ∧ ∃ a, a < t ∧ L t = nI a ∧ sp t = K t :: sp a) ∨ (tAr (K t) = 2 ∧ ∃ a b, a < t ∧ b < t ∧ L t = nI a ∧ R t = nI b ∧ sp t = K t :: (sp a ++ sp b))
def gTb (K L R S : Nat → Int32) (n : Nat) (sp : Nat → List Int32) : Prop := n ≤ 120 ∧ ∀ t, t < n → (sp t).length ≤ 40 ∧ S t = nI (sp t).length ∧ gSg (K t) ∧ gTr K L R sp t
theorem gTb.V {K L R S : Nat → Int32} {n : Nat} {sp : Nat → List Int32} (h : gTb K L R S n sp) : ∀ t, t < n → trun (sp t) 1 = some 0 := by
  intro t
  induction t using Nat.strongRecOn with
  | _ t ih =>
    intro ht
    obtain ⟨-, -, -, hr⟩ := h.2 t ht
    rcases hr with ⟨ha, -, -, hs⟩ | ⟨ha, -, a, hat, -, hs⟩ | ⟨ha, a, b, hat, hbt, -, -, hs⟩
    · rw [hs, trun_cons, ha]; rfl
    · rw [hs, trun_cons, ha]
      exact ih a hat (by omega)
    · rw [hs, trun_cons, ha]
      show trun (sp a ++ sp b) (1 + 1) = some 0
      rw [trun_app, trun_1 (ih a hat (by omega)) 1]
      exact ih b hbt (by omega)
theorem gTb.pos {K L R S : Nat → Int32} {n : Nat} {sp : Nat → List Int32} (h : gTb K L R S n sp) {t : Nat} (ht : t < n) : 0 < (sp t).length := by
  have := trun_le (h.V t ht)
  omega
theorem gTb.ch {K L R S : Nat → Int32} {n : Nat} {sp : Nat → List Int32} (h : gTb K L R S n sp) : ∀ t, t < n → gCh (sp t) := by
  intro t
  induction t using Nat.strongRecOn with
  | _ t ih =>
    intro ht
    obtain ⟨-, -, hk, hr⟩ := h.2 t ht
    rcases hr with ⟨ha, -, -, hs⟩ | ⟨ha, -, a, hat, -, hs⟩ | ⟨ha, a, b, hat, hbt, -, -, hs⟩
    · rw [hs]; exact gCh_1 (gSg_ch hk)
    · rw [hs]; exact gCh_app (gCh_1 (gSg_ch hk)) (ih a hat (by omega))
    · rw [hs]; exact gCh_app (gCh_1 (gSg_ch hk)) (gCh_app (ih a hat (by omega)) (ih b hbt (by omega)))
section X
variable {nw nx : Nat} {LO : Nat → Int64} {DO : Nat → UInt64} {d n : Nat} {A : Nat → Nat → Int32} {F : Nat → Int32} {sp : Nat → List Int32}
theorem s_sizeN (hT : gTb (A 2) (A 3) (A 4) (A 5) n sp) (hF : F 0 = nI n) {t : Nat} (ht : t < n) : gm_Sp gm_MT (d + 2) 5003 [.ref 1, .int (nI t)] (gw A F nw nx LO DO) (.inl (some (.int (nI (sp t).length)))) (gw A F nw nx LO DO) 0 0 := by
  have := s_sizeOf (A := A) (nw := nw) (nx := nx) (LO := LO) (DO := DO) (d := d) (nI t) hT.1 hF
  rw [gT_nI ht hT.1] at this
  have e1 : gO (A 5) (some t) 0 = nI (sp t).length := (hT.2 t ht).2.1
  rw [e1] at this
  exact this
theorem s_leftN (hn : n ≤ 120) (hF : F 0 = nI n) {t : Nat} (ht : t < n) : gm_Sp gm_MT (d + 2) 5006 [.ref 1, .int (nI t)] (gw A F nw nx LO DO) (.inl (some (.int (A 3 t)))) (gw A F nw nx LO DO) 0 0 := by
  have := s_leftOf (A := A) (nw := nw) (nx := nx) (LO := LO) (DO := DO) (d := d) (nI t) hn hF
  rw [gT_nI ht hn] at this
  exact this
theorem s_rightN (hn : n ≤ 120) (hF : F 0 = nI n) {t : Nat} (ht : t < n) : gm_Sp gm_MT (d + 2) 5007 [.ref 1, .int (nI t)] (gw A F nw nx LO DO) (.inl (some (.int (A 4 t)))) (gw A F nw nx LO DO) 0 0 := by
  have := s_rightOf (A := A) (nw := nw) (nx := nx) (LO := LO) (DO := DO) (d := d) (nI t) hn hF
  rw [gT_nI ht hn] at this
  exact this
theorem s_headN (hT : gTb (A 2) (A 3) (A 4) (A 5) n sp) (hF : F 0 = nI n) {t : Nat} (ht : t < n) : gm_Sp gm_MT (d + 2) 5005 [.ref 1, .int (nI t)] (gw A F nw nx LO DO) (.inl (some (.int (A 2 t)))) (gw A F nw nx LO DO) 0 0 := by
  have := s_headOf (A := A) (nw := nw) (nx := nx) (LO := LO) (DO := DO) (d := d) (nI t) hT.1 (fun j hj => gSg_ch (hT.2 j hj).2.2.1) hF
  rw [gT_nI ht hT.1] at this
  exact this
def gO3 (o6 o7 o8 : Option Value) : Prop := (o6 = none ∧ o7 = none ∧ o8 = none) ∨ (∃ a b c : Int32, o6 = some (.int a) ∧ o7 = some (.int b) ∧ o8 = some (.int c))
theorem s_symbolOf_loop (hT : gTb (A 2) (A 3) (A 4) (A 5) n sp) (hF : F 0 = nI n) {t0 k0 : Int32} (G : pG) (X : pX) (hC : gm_cl gm_mX4_symbolOf gm_tyf none (gm_Sp gm_MT (d + 2)) G X) : ∀ (m k i a : Nat) (o6 o7 o8 : Option Value), k ≤ m → i + k ≤ 39 → a < n → k < (sp a).length → gO3 o6 o7 o8 → X (.inl (some (.int ((sp a).getD k 32)))) (gw A F nw nx LO DO) 0 0 → G 8 [some (.ref 1), some (.int t0), some (.int k0), some (.int (nI a)), some (.int (nI k)), some (.int (nI i)), o6, o7, o8] [] (gw A F nw nx LO DO) 0 0 := by
  have base : ∀ (i a : Nat) (o6 o7 o8 : Option Value), i ≤ 39 → a < n → gO3 o6 o7 o8 → X (.inl (some (.int ((sp a).getD 0 32)))) (gw A F nw nx LO DO) 0 0 → G 8 [some (.ref 1), some (.int t0), some (.int k0), some (.int (nI a)), some (.int (nI 0)), some (.int (nI i)), o6, o7, o8] [] (gw A F nw nx LO DO) 0 0 := by
    intro i a o6 o7 o8 hi ha ho hX
    have hh := s_headN (nw := nw) (nx := nx) (LO := LO) (DO := DO) (d := d) hT hF ha
    have hch := gSg_ch (hT.2 a ha).2.2.1
    have e1 : (sp a).getD 0 32 = A 2 a := by
      obtain ⟨-, -, -, hr⟩ := hT.2 a ha
      rcases hr with ⟨-, -, -, hs⟩ | ⟨-, -, b, -, -, hs⟩ | ⟨-, b, c, -, -, -, -, hs⟩ <;> rw [hs] <;> rfl
    rw [e1] at hX
    have n1 : ¬ nI 40 ≤ nI i := nI_ge (by omega) (by omega)
    rcases ho with ⟨rfl, rfl, rfl⟩ | ⟨x, y, z, rfl, rfl, rfl⟩
    all_goals
      refine gm_run1 hC [8] 200 8 ?_
      exact gx_f n1 (gx_t (show nI 0 ≤ 0 from by decide) (Or.inl ⟨_, _, _, _, hh, gx_c hX hch rfl rfl⟩))
  intro m
  induction m with
  | zero =>
    intro k i a o6 o7 o8 hk hi ha hka ho hX
    have hk0 : k = 0 := by omega
    subst hk0
    exact base i a o6 o7 o8 (by omega) ha ho hX
  | succ m ih =>
    intro k i a o6 o7 o8 hk hi ha hka ho hX
    cases k with
    | zero => exact base i a o6 o7 o8 (by omega) ha ho hX
    | succ k =>
      have n1 : ¬ nI 40 ≤ nI i := nI_ge (by omega) (by omega)
      have n2 : ¬ nI (k + 1) ≤ 0 := nI_nle (by omega) (by omega)
      have hlf := s_leftN (A := A) (nw := nw) (nx := nx) (LO := LO) (DO := DO) (d := d) hT.1 hF ha
      have hrg := s_rightN (A := A) (nw := nw) (nx := nx) (LO := LO) (DO := DO) (d := d) hT.1 hF ha
      obtain ⟨h40, -, -, hr⟩ := hT.2 a ha
      rcases hr with ⟨-, -, -, hs⟩ | ⟨-, -, b, hb, hL, hs⟩ | ⟨-, b, c, hb, hc, hL, hR, hs⟩
      · rw [hs] at hka
        simp at hka
      · rw [hL] at hlf
        have hsz := s_sizeN (nw := nw) (nx := nx) (LO := LO) (DO := DO) (d := d) hT hF (t := b) (by omega)
        rw [hs] at hka hX
        simp only [List.length_cons] at hka
        obtain ⟨hb40, -, -, -⟩ := hT.2 b (by omega)
        have h9 := ih k (i + 1) b (some (.int (nI b))) (some (.int (nI (sp b).length))) (some (.int 1)) (by omega) (by omega) (by omega) (by omega) (Or.inr ⟨_, _, _, rfl, rfl, rfl⟩) hX
        rw [← nI_1 i, ← nI_pred k] at h9
        have n3 : ¬ nI (sp b).length < nI (k + 1) := nI_nlt (by omega) (by omega)
        clear ih
        rcases ho with ⟨rfl, rfl, rfl⟩ | ⟨x, y, z, rfl, rfl, rfl⟩
        all_goals
          refine gm_run1 hC [8] 200 8 ?_
          exact gx_f n1 (gx_f n2 (Or.inl ⟨_, _, _, _, hlf, Or.inl ⟨_, _, _, _, hsz, gx_f n3 (gx_f (show ¬ (1 : Int32) = 0 from by decide) (gx_f (show ¬ (1 : Int32) = 0 from by decide) h9))⟩⟩))
      · rw [hL] at hlf
        rw [hR] at hrg
        have hsz := s_sizeN (nw := nw) (nx := nx) (LO := LO) (DO := DO) (d := d) hT hF (t := b) (by omega)
        obtain ⟨hb40, -, -, -⟩ := hT.2 b (by omega)
        rw [hs] at hka hX
        simp only [List.length_cons, List.length_append] at hka
        have hX2 : X (.inl (some (.int ((sp b ++ sp c).getD k 32)))) (gw A F nw nx LO DO) 0 0 := hX
        by_cases hlt : k < (sp b).length
        · have e1 : (sp b ++ sp c).getD k 32 = (sp b).getD k 32 := by
            rw [List.getD_eq_getElem?_getD, List.getElem?_append_left hlt, ← List.getD_eq_getElem?_getD]
          rw [e1] at hX2
          have h9 := ih k (i + 1) b (some (.int (nI b))) (some (.int (nI (sp b).length))) (some (.int 1)) (by omega) (by omega) (by omega) hlt (Or.inr ⟨_, _, _, rfl, rfl, rfl⟩) hX2
          rw [← nI_1 i, ← nI_pred k] at h9
          have n3 : ¬ nI (sp b).length < nI (k + 1) := nI_nlt (by omega) (by omega)
          clear ih
          rcases ho with ⟨rfl, rfl, rfl⟩ | ⟨x, y, z, rfl, rfl, rfl⟩
          all_goals
            refine gm_run1 hC [8] 200 8 ?_
            exact gx_f n1 (gx_f n2 (Or.inl ⟨_, _, _, _, hlf, Or.inl ⟨_, _, _, _, hsz, gx_f n3 (gx_f (show ¬ (1 : Int32) = 0 from by decide) (gx_f (show ¬ (1 : Int32) = 0 from by decide) h9))⟩⟩))
        · have e1 : (sp b ++ sp c).getD k 32 = (sp c).getD (k - (sp b).length) 32 := by
            rw [List.getD_eq_getElem?_getD, List.getElem?_append_right (by omega), ← List.getD_eq_getElem?_getD]
          rw [e1] at hX2
          have h9 := ih (k - (sp b).length) (i + 1) c (some (.int (nI b))) (some (.int (nI (sp b).length))) (some (.int 0)) (by omega) (by omega) (by omega) (by omega) (Or.inr ⟨_, _, _, rfl, rfl, rfl⟩) hX2
          have e2 : nI (k - (sp b).length) = nI (k + 1) - 1 - nI (sp b).length := by rw [nI_pred, nI_subN (by omega)]
          rw [← nI_1 i, e2] at h9
          have n3 : nI (sp b).length < nI (k + 1) := nI_lt (by omega) (by omega)
          clear ih
          rcases ho with ⟨rfl, rfl, rfl⟩ | ⟨x, y, z, rfl, rfl, rfl⟩
          all_goals
            refine gm_run1 hC [8] 200 8 ?_
            exact gx_f n1 (gx_f n2 (Or.inl ⟨_, _, _, _, hlf, Or.inl ⟨_, _, _, _, hsz, gx_t n3 (gx_t (show (0 : Int32) = 0 from rfl) (Or.inl ⟨_, _, _, _, hrg, gx_t (show (0 : Int32) = 0 from rfl) h9⟩))⟩⟩))
theorem s_symbolOf (hT : gTb (A 2) (A 3) (A 4) (A 5) n sp) (hF : F 0 = nI n) {t k : Nat} (ht : t < n) (hk : k < (sp t).length) : gm_Sp gm_MT (d + 3) 5008 [.ref 1, .int (nI t), .int (nI k)] (gw A F nw nx LO DO) (.inl (some (.int ((sp t).getD k 32)))) (gw A F nw nx LO DO) 0 0 := by
  have h40 := (hT.2 t ht).1
  refine gm_mk gm_mX4_symbolOf rfl ⟨Or.inr rfl, rfl, rfl, trivial⟩ (fun G X hC hX => ?_)
  refine gm_runs hC [8] 200 _ _ _ _ _ _ ?_
  exact s_symbolOf_loop hT hF G X hC k k 0 t none none none (Nat.le_refl _) (by omega) ht hk (Or.inl ⟨rfl, rfl, rfl⟩) hX
end X