/-! THE PROVER'S SEARCH -/
theorem fN_ub (M : Nat → Int32) : ∀ m S, fN M m S ≤ 100
  | 0, S => by
    unfold fN
    split <;> omega
  | m + 1, S => by
    unfold fN
    have := fN_ub M m S
    omega
theorem nI_mulN (a b : Nat) : nI a * nI b = nI (a * b) := (Int32.ofNat_mul a b).symm
/-- the table is right from a region on -/
def tbQ (M : Nat → Int32) (f : Nat → Int32) (k : Nat) : Prop := ∀ r, k ≤ r → r ≤ 16 → ∀ s, s < 128 → f (r * 128 + s) = nI (fN M (16 - r) (nI s))
def rNth : List Nat → Int32 → Int32 → Option Nat
  | [], _, _ => none
  | r :: l, x, b => if b = x then some r else rNth l x (b + 1)
section X
variable {nw nx : Nat} {LO : Nat → Int64} {DO : Nat → UInt64} {d n : Nat} {A : Nat → Nat → Int32} {F : Nat → Int32}
theorem s_fewestFrom {r s : Nat} (hr : r ≤ 16) (hs : s < 128) : gm_Sp gm_MT (d + 1) 3004 [.ref 21, .int (nI r), .int (nI s)] (gw A F nw nx LO DO) (.inl (some (.int (A 23 (r * 128 + s))))) (gw A F nw nx LO DO) 0 0 := by
  refine gm_mk gm_mX2_fewestFrom rfl ⟨Or.inr rfl, rfl, rfl, trivial⟩ (fun G X hC hX => ?_)
  have e : nI r * 128 + nI s = nI (r * 128 + s) := by rw [show (128 : Int32) = nI 128 from rfl, nI_mulN, nI_add]
  have k0 := nI_clamp (n := r * 128 + s) (by omega)
  refine gm_runs hC [] 200 _ _ _ _ _ _ ?_
  refine gx_f (show ¬ nI r < 0 from nI_pos (by omega)) (gx_f (show ¬ (16 : Int32) < nI r from nI_nlt (a := 16) (by omega) (by decide)) (gx_f (show ¬ nI s < 0 from nI_pos (by omega)) (gx_t (show nI s < 128 from nI_lt (b := 128) hs (by decide)) (And.intro (show ¬ (nI r * 128 + nI s < 0 ∨ 2176 ≤ (nI r * 128 + nI s).toNatClampNeg) from by rw [e]; exact nI_in (by omega) (by decide)) ?_))))
  show X (.inl (some (.int (A 23 (nI r * 128 + nI s).toNatClampNeg)))) (gw A F nw nx LO DO) (0 + 0) (0 + 0)
  rw [e, k0]
  exact hX
theorem s_fill0 : ∀ (m s : Nat) (f : Nat → Int32), s + m = 128 → (∀ t, t < s → f (2048 + t) = nI (fN (A 22) 0 (nI t))) → ∃ f', tbQ (A 22) f' 16 ∧ ∀ (G : pG) (X : pX), gm_cl gm_mX2_fewestBySets gm_tyf none (gm_Sp gm_MT (d + 2)) G X → G 35 [some (.ref 21), some (.int (nI 128)), none, none, none, none] [] (gw (va_up A 23 f') F nw nx LO DO) 0 0 → G 2 [some (.ref 21), some (.int (nI s)), none, none, none, none] [] (gw (va_up A 23 f) F nw nx LO DO) 0 0 := by
  intro m
  induction m with
  | zero =>
    intro s f hs h1
    have hs : s = 128 := by omega
    subst hs
    refine ⟨f, fun r h1r h2r s hs => ?_, fun G X hC hX => ?_⟩
    · have e : r = 16 := by omega
      subst e
      exact h1 s hs
    · refine gm_run1 hC [2, 35] 200 2 ?_
      exact gx_t (show (128 : Int32) ≤ nI 128 from by decide) hX
  | succ m ih =>
    intro s f hs h1
    have n1 : ¬ (128 : Int32) ≤ nI s := nI_ge (b := 128) (by omega) (by decide)
    have e : (2048 : Int32) + nI s = nI (2048 + s) := nI_add 2048 s
    have k0 := nI_clamp (n := 2048 + s) (by omega)
    obtain ⟨f', g1, g2⟩ := ih (s + 1) (upd f (2048 + s) (nI (fN (A 22) 0 (nI s)))) (by omega) (fun t ht => by
      by_cases e : t = s
      · rw [e, upd_at]
      · rw [upd_lt (by omega)]; exact h1 t (by omega))
    refine ⟨f', g1, fun G X hC hX => ?_⟩
    have h9 := g2 G X hC hX
    rw [← nI_1] at h9
    unfold fN at h9
    by_cases c : s = 0
    · subst c
      rw [if_pos (show nI 0 = 0 from rfl)] at h9
      refine gm_run1 hC [2, 35] 200 2 ?_
      refine gx_f n1 (gx_f (show ¬ ¬ nI 0 = 0 from fun z => z rfl) (And.intro (show ¬ ((2048 : Int32) + nI 0 < 0 ∨ 2176 ≤ ((2048 : Int32) + nI 0).toNatClampNeg) from by rw [e]; exact nI_in (by omega) (by decide)) ?_))
      show G 2 [some (.ref 21), some (.int (nI 0 + 1)), none, none, none, none] [] (gw (va_up A 23 (upd f ((2048 : Int32) + nI 0).toNatClampNeg 0)) F nw nx LO DO) 0 0
      rw [e, k0]
      exact h9
    · have c' : ¬ nI s = 0 := nI_ne0 (by omega) (by omega)
      rw [if_neg c'] at h9
      refine gm_run1 hC [2, 35] 200 2 ?_
      refine gx_f n1 (gx_t c' (And.intro (show ¬ ((2048 : Int32) + nI s < 0 ∨ 2176 ≤ ((2048 : Int32) + nI s).toNatClampNeg) from by rw [e]; exact nI_in (by omega) (by decide)) ?_))
      show G 2 [some (.ref 21), some (.int (nI s + 1)), none, none, none, none] [] (gw (va_up A 23 (upd f ((2048 : Int32) + nI s).toNatClampNeg 100)) F nw nx LO DO) 0 0
      rw [e, k0]
      exact h9
theorem s_fill1 {r : Nat} (hr : r < 16) : ∀ (m s : Nat) (f : Nat → Int32), s + m = 128 → tbQ (A 22) f (r + 1) → (∀ t, t < s → f (r * 128 + t) = nI (fN (A 22) (16 - r) (nI t))) → ∃ f', tbQ (A 22) f' r ∧ ∀ (G : pG) (X : pX), gm_cl gm_mX2_fewestBySets gm_tyf none (gm_Sp gm_MT (d + 2)) G X → (∀ o3 o4 o5, G 109 [some (.ref 21), some (.int (nI r)), some (.int (A 22 r)), o3, o4, o5] [] (gw (va_up A 23 f') F nw nx LO DO) 0 0) → ∀ o4 o5, G 51 [some (.ref 21), some (.int (nI r)), some (.int (A 22 r)), some (.int (nI s)), o4, o5] [] (gw (va_up A 23 f) F nw nx LO DO) 0 0 := by
  intro m
  induction m with
  | zero =>
    intro s f hs h0 h1
    have hs : s = 128 := by omega
    subst hs
    refine ⟨f, fun r2 h1r h2r s hs => ?_, fun G X hC hX o4 o5 => ?_⟩
    · by_cases e : r2 = r
      · rw [e]; exact h1 s hs
      · exact h0 r2 (by omega) h2r s hs
    · have hX := hX (some (.int (nI 128))) o4 o5
      refine gm_run1 hC [51, 109] 200 51 ?_
      exact gx_t (show (128 : Int32) ≤ nI 128 from by decide) hX
  | succ m ih =>
    intro s f hs h0 h1
    have n1 : ¬ (128 : Int32) ≤ nI s := nI_ge (b := 128) (by omega) (by decide)
    have e : nI r * 128 + nI s = nI (r * 128 + s) := by rw [show (128 : Int32) = nI 128 from rfl, nI_mulN, nI_add]
    have k0 := nI_clamp (n := r * 128 + s) (by omega)
    obtain ⟨s2, hs2, es2⟩ := iX_128 (s := s) (by omega) (A 22 r)
    have f1 : gm_Sp gm_MT (d + 2) 3004 [.ref 21, .int (nI (r + 1)), .int (nI s)] (gw (va_up A 23 f) F nw nx LO DO) (.inl (some (.int (f ((r + 1) * 128 + s))))) (gw (va_up A 23 f) F nw nx LO DO) 0 0 := s_fewestFrom (A := va_up A 23 f) (d := d + 1) (by omega) (by omega)
    have f2 : gm_Sp gm_MT (d + 2) 3004 [.ref 21, .int (nI (r + 1)), .int (nI s2)] (gw (va_up A 23 f) F nw nx LO DO) (.inl (some (.int (f ((r + 1) * 128 + s2))))) (gw (va_up A 23 f) F nw nx LO DO) 0 0 := s_fewestFrom (A := va_up A 23 f) (d := d + 1) (by omega) hs2
    rw [h0 (r + 1) (by omega) (by omega) s (by omega), ← nI_1] at f1
    rw [h0 (r + 1) (by omega) (by omega) s2 hs2, ← es2, ← nI_1] at f2
    have em : 16 - (r + 1) = 15 - r := by omega
    rw [em] at f1 f2
    have u1 := fN_ub (A 22) (15 - r) (nI s)
    have u2 := fN_ub (A 22) (15 - r) (iX (nI s) (A 22 r))
    have efn : fN (A 22) (16 - r) (nI s) = min (fN (A 22) (15 - r) (nI s)) (1 + fN (A 22) (15 - r) (iX (nI s) (A 22 r))) := by
      rw [show 16 - r = (15 - r) + 1 by omega]
      show min _ (1 + fN (A 22) (15 - r) (iX (nI s) (A 22 (15 - (15 - r))))) = _
      rw [show 15 - (15 - r) = r by omega]
    generalize hv1 : fN (A 22) (15 - r) (nI s) = v1 at f1 u1 efn
    generalize hv2 : fN (A 22) (15 - r) (iX (nI s) (A 22 r)) = v2 at f2 u2 efn
    have hmin := s_min (A := va_up A 23 f) (F := F) (nw := nw) (nx := nx) (LO := LO) (DO := DO) (d := d + 1) (nI v1) (1 + nI v2)
    have hval : (if 1 + nI v2 < nI v1 then 1 + nI v2 else nI v1) = nI (fN (A 22) (16 - r) (nI s)) := by
      rw [efn, show (1 : Int32) + nI v2 = nI (1 + v2) from nI_add 1 v2]
      by_cases c : 1 + v2 < v1
      · rw [if_pos (nI_lt c (by omega)), Nat.min_eq_right (by omega)]
      · rw [if_neg (nI_nlt (by omega) (by omega)), Nat.min_eq_left (by omega)]
    rw [hval] at hmin
    obtain ⟨f', g1, g2⟩ := ih (s + 1) (upd f (r * 128 + s) (nI (fN (A 22) (16 - r) (nI s)))) (by omega) (fun r2 a1 a2 s3 a3 => by
      rw [show upd f (r * 128 + s) _ (r2 * 128 + s3) = f (r2 * 128 + s3) from if_neg (by omega)]
      exact h0 r2 a1 a2 s3 a3) (fun t ht => by
      by_cases e : t = s
      · rw [e, upd_at]
      · rw [upd_lt (by omega)]; exact h1 t (by omega))
    refine ⟨f', g1, fun G X hC hX o4 o5 => ?_⟩
    have h9 := g2 G X hC hX (some (.int (nI v1))) (some (.int (1 + nI v2)))
    rw [← nI_1] at h9
    refine gm_run1 hC [51, 109] 200 51 ?_
    refine gx_f n1 (Or.inl ⟨_, _, _, _, f1, Or.inl ⟨_, _, _, _, f2, Or.inl ⟨_, _, _, _, hmin, And.intro (show ¬ (nI r * 128 + nI s < 0 ∨ 2176 ≤ (nI r * 128 + nI s).toNatClampNeg) from by rw [e]; exact nI_in (by omega) (by decide)) ?_⟩⟩⟩)
    show G 51 [some (.ref 21), some (.int (nI r)), some (.int (A 22 r)), some (.int (nI s + 1)), some (.int (nI v1)), some (.int (1 + nI v2))] [] (gw (va_up A 23 (upd f (nI r * 128 + nI s).toNatClampNeg (nI (fN (A 22) (16 - r) (nI s))))) F nw nx LO DO) 0 0
    rw [e, k0]
    exact h9
theorem s_fill2 : ∀ (r : Nat) (f : Nat → Int32), r ≤ 16 → tbQ (A 22) f r → ∃ f', tbQ (A 22) f' 0 ∧ ∀ (G : pG) (X : pX), gm_cl gm_mX2_fewestBySets gm_tyf none (gm_Sp gm_MT (d + 2)) G X → (∀ o1 o2 o3 o4 o5, G 115 [some (.ref 21), some (.int o1), o2, o3, o4, o5] [] (gw (va_up A 23 f') F nw nx LO DO) 0 0) → ∀ o2 o3 o4 o5, G 38 [some (.ref 21), some (.int (nI r - 1)), o2, o3, o4, o5] [] (gw (va_up A 23 f) F nw nx LO DO) 0 0 := by
  intro r
  induction r with
  | zero =>
    intro f hr h0
    refine ⟨f, h0, fun G X hC hX o2 o3 o4 o5 => ?_⟩
    have hX := hX (nI 0 - 1) o2 o3 o4 o5
    refine gm_run1 hC [38, 51, 109, 115] 200 38 ?_
    exact gx_t (show nI 0 - 1 < 0 from by decide) hX
  | succ r ih =>
    intro f hr h0
    have k0 := nI_clamp (n := r) (by omega)
    obtain ⟨f1, a1, a2⟩ := s_fill1 (A := A) (F := F) (nw := nw) (nx := nx) (LO := LO) (DO := DO) (d := d) (r := r) (by omega) 128 0 f rfl h0 (fun t ht => by omega)
    obtain ⟨f2, b1, b2⟩ := ih f1 (by omega) a1
    refine ⟨f2, b1, fun G X hC hX o2 o3 o4 o5 => ?_⟩
    have e9 := a2 G X hC (fun o3 o4 o5 => by
      have h9 := b2 G X hC hX (some (.int (A 22 r))) o3 o4 o5
      rw [← nI_m1] at h9
      refine gm_run1 hC [38, 51, 115] 200 109 ?_
      exact h9) o4 o5
    have n1 : ¬ nI r < 0 := nI_pos (by omega)
    rw [nI_pred]
    refine gm_run1 hC [38, 51, 109, 115] 200 38 ?_
    refine gx_f n1 (And.intro (nI_in (by omega) (by decide)) ?_)
    show G 51 [some (.ref 21), some (.int (nI r)), some (.int (A 22 (nI r).toNatClampNeg)), some (.int (nI 0)), o4, o5] [] (gw (va_up A 23 f) F nw nx LO DO) 0 0
    rw [k0]
    exact e9
theorem s_bySets {W : Nat} (hW : W < 128) (hF : F 11 = nI W) : ∃ f', tbQ (A 22) f' 0 ∧ gm_Sp gm_MT (d + 3) 3003 [.ref 21] (gw A F nw nx LO DO) (.inl (some (.int (if fN (A 22) 16 (nI W) < 100 then nI (fN (A 22) 16 (nI W)) else -1)))) (gw (va_up A 23 f') F nw nx LO DO) 0 0 := by
  obtain ⟨f1, a1, a2⟩ := s_fill0 (A := A) (F := F) (nw := nw) (nx := nx) (LO := LO) (DO := DO) (d := d) 128 0 (A 23) rfl (fun t ht => by omega)
  obtain ⟨f2, b1, b2⟩ := s_fill2 (A := A) (F := F) (nw := nw) (nx := nx) (LO := LO) (DO := DO) (d := d) 16 f1 (by omega) a1
  refine ⟨f2, b1, gm_mk gm_mX2_fewestBySets rfl ⟨Or.inr rfl, rfl, rfl, trivial⟩ (fun G X hC hX => ?_)⟩
  have hw0 : f2 W = nI (fN (A 22) 16 (nI W)) := by
    have := b1 0 (Nat.le_refl _) (by omega) W hW
    rw [Nat.zero_mul, Nat.zero_add] at this
    exact this
  have ff : gm_Sp gm_MT (d + 2) 3004 [.ref 21, .int (nI 0), .int (nI W)] (gw (va_up A 23 f2) F nw nx LO DO) (.inl (some (.int (f2 (0 * 128 + W))))) (gw (va_up A 23 f2) F nw nx LO DO) 0 0 := s_fewestFrom (A := va_up A 23 f2) (d := d + 1) (by omega) hW
  rw [Nat.zero_mul, Nat.zero_add, hw0] at ff
  have ub := fN_ub (A 22) 16 (nI W)
  have h9 := a2 G X hC (by
    have h8 := b2 G X hC (fun o1 o2 o3 o4 o5 => by
      rw [← hF] at ff
      refine gm_runs hC [38] 200 _ _ _ _ _ _ ?_
      refine Or.inl ⟨_, _, _, _, ff, ?_⟩
      by_cases c : fN (A 22) 16 (nI W) < 100
      · rw [if_pos c] at hX
        rw [hF]
        exact gx_f (show ¬ (100 : Int32) ≤ nI (fN (A 22) 16 (nI W)) from nI_ge (b := 100) c (by decide)) hX
      · rw [if_neg c] at hX
        rw [hF]
        exact gx_t (show (100 : Int32) ≤ nI (fN (A 22) 16 (nI W)) from nI_le (a := 100) (by omega) (by omega)) hX) none none none none
    refine gm_runs hC [38] 200 _ _ _ _ _ _ ?_
    exact h8)
  refine gm_runs hC [2] 200 _ _ _ _ _ _ ?_
  exact h9
theorem s_regionOf_loop (hT : tbQ (A 22) (A 23) 0) {x : Int32} (G : pG) (X : pX) (hC : gm_cl gm_mX2_regionOf gm_tyf none (gm_Sp gm_MT (d + 1)) G X) : ∀ (m r s : Nat) (b : Int32) (o5 : Option Value), r + m = 16 → s < 128 → X (.inl (some (.int (gOI (rNth (pkL (A 22) m (nI s)) x b))))) (gw A F nw nx LO DO) 0 0 → G 10 [some (.ref 21), some (.int x), some (.int (nI s)), some (.int b), some (.int (nI r)), o5] [] (gw A F nw nx LO DO) 0 0 := by
  intro m
  induction m with
  | zero =>
    intro r s b o5 hr hs hY
    have hr : r = 16 := by omega
    subst hr
    have hY : X (.inl (some (.int (-1)))) (gw A F nw nx LO DO) 0 0 := hY
    refine gm_run1 hC [10] 200 10 ?_
    exact gx_t (show (16 : Int32) ≤ nI 16 from by decide) (gx_i hY (by decide) rfl)
  | succ m ih =>
    intro r s b o5 hr hs hY
    have n1 : ¬ (16 : Int32) ≤ nI r := nI_ge (b := 16) (by omega) (by decide)
    have k0 := nI_clamp (n := r) (by omega)
    obtain ⟨s2, hs2, es2⟩ := iX_128 hs (A 22 r)
    have er : 15 - m = r := by omega
    have f1 := s_fewestFrom (A := A) (F := F) (nw := nw) (nx := nx) (LO := LO) (DO := DO) (d := d) (r := r + 1) (by omega) hs2
    have f2 := s_fewestFrom (A := A) (F := F) (nw := nw) (nx := nx) (LO := LO) (DO := DO) (d := d) (r := r) (by omega) hs
    rw [hT (r + 1) (Nat.zero_le _) (by omega) s2 hs2, ← es2, show 16 - (r + 1) = m by omega, ← nI_1] at f1
    rw [hT r (Nat.zero_le _) (by omega) s hs, show 16 - r = m + 1 by omega] at f2
    have u1 := fN_ub (A 22) m (iX (nI s) (A 22 r))
    have u2 := fN_ub (A 22) (m + 1) (nI s)
    unfold pkL at hY
    rw [er] at hY
    by_cases c1 : iX (nI s) (A 22 r) = nI s
    · rw [if_neg (fun z => z.1 c1)] at hY
      have h9 := ih (r + 1) s b (some (.int (nI s &&& (A 22 r ^^^ (-1))))) (by omega) hs hY
      rw [← nI_1] at h9
      refine gm_run1 hC [10] 200 10 ?_
      refine gx_f n1 (And.intro (nI_in (by omega) (by decide)) ?_)
      rw [k0]
      exact gx_t (show iX (nI s) (A 22 r) = nI s from c1) h9
    · by_cases c2 : fN (A 22) m (iX (nI s) (A 22 r)) + 1 = fN (A 22) (m + 1) (nI s)
      · rw [if_pos ⟨c1, c2⟩] at hY
        unfold rNth at hY
        have c2' : nI (fN (A 22) m (iX (nI s) (A 22 r))) + 1 = nI (fN (A 22) (m + 1) (nI s)) := by rw [nI_1, c2]
        by_cases c3 : b = x
        · rw [if_pos c3] at hY
          have hY : X (.inl (some (.int (nI r)))) (gw A F nw nx LO DO) 0 0 := hY
          refine gm_run1 hC [10] 200 10 ?_
          refine gx_f n1 (And.intro (nI_in (by omega) (by decide)) ?_)
          rw [k0]
          exact gx_f (show ¬ iX (nI s) (A 22 r) = nI s from c1) (Or.inl ⟨_, _, _, _, f1, Or.inl ⟨_, _, _, _, f2, gx_f (show ¬ ¬ nI (fN (A 22) m (iX (nI s) (A 22 r))) + 1 = nI (fN (A 22) (m + 1) (nI s)) from fun z => z c2') (gx_f (show ¬ ¬ b = x from fun z => z c3) (gx_i hY rfl rfl))⟩⟩)
        · rw [if_neg c3, es2] at hY
          have h9 := ih (r + 1) s2 (b + 1) (some (.int (nI s2))) (by omega) hs2 hY
          rw [← nI_1, ← es2] at h9
          refine gm_run1 hC [10] 200 10 ?_
          refine gx_f n1 (And.intro (nI_in (by omega) (by decide)) ?_)
          rw [k0]
          exact gx_f (show ¬ iX (nI s) (A 22 r) = nI s from c1) (Or.inl ⟨_, _, _, _, f1, Or.inl ⟨_, _, _, _, f2, gx_f (show ¬ ¬ nI (fN (A 22) m (iX (nI s) (A 22 r))) + 1 = nI (fN (A 22) (m + 1) (nI s)) from fun z => z c2') (gx_t c3 h9)⟩⟩)
      · rw [if_neg (fun z => c2 z.2)] at hY
        have c2' : ¬ nI (fN (A 22) m (iX (nI s) (A 22 r))) + 1 = nI (fN (A 22) (m + 1) (nI s)) := by
          rw [nI_1]
          exact fun z => c2 ((nI_eq (by omega) (by omega)).mp z)
        have h9 := ih (r + 1) s b (some (.int (iX (nI s) (A 22 r)))) (by omega) hs hY
        rw [← nI_1] at h9
        refine gm_run1 hC [10] 200 10 ?_
        refine gx_f n1 (And.intro (nI_in (by omega) (by decide)) ?_)
        rw [k0]
        exact gx_f (show ¬ iX (nI s) (A 22 r) = nI s from c1) (Or.inl ⟨_, _, _, _, f1, Or.inl ⟨_, _, _, _, f2, gx_t c2' h9⟩⟩)
theorem s_regionOf {W : Nat} (hW : W < 128) (hF : F 11 = nI W) (hT : tbQ (A 22) (A 23) 0) (x : Int32) : gm_Sp gm_MT (d + 2) 3005 [.ref 21, .int x] (gw A F nw nx LO DO) (.inl (some (.int (gOI (rNth (pkL (A 22) 16 (nI W)) x 0))))) (gw A F nw nx LO DO) 0 0 := by
  refine gm_mk gm_mX2_regionOf rfl ⟨Or.inr rfl, rfl, rfl, trivial⟩ (fun G X hC hX => ?_)
  have h9 := s_regionOf_loop hT (x := x) G X hC 16 0 W 0 none rfl hW hX
  rw [← hF] at h9
  refine gm_runs hC [10] 200 _ _ _ _ _ _ ?_
  exact h9
theorem s_canMeet : ∀ (e s : Nat), e < 100 → s < 128 → gm_Sp gm_MT (d + 1 + e) 3007 [.ref 21, .int (nI s), .int (nI e)] (gw A F nw nx LO DO) (.inl (some (.int (gB (cmB (A 22) e (nI s)))))) (gw A F nw nx LO DO) 0 0 := by
  intro e
  induction e with
  | zero =>
    intro s he hs
    refine gm_mk gm_mX2_canMeet rfl ⟨Or.inr rfl, rfl, rfl, trivial⟩ (fun G X hC hX => ?_)
    unfold cmB at hX
    refine gm_runs hC [] 200 _ _ _ _ _ _ ?_
    by_cases c : nI s = 0
    · rw [decide_eq_true c] at hX
      exact gx_f (show ¬ ¬ nI s = 0 from fun z => z c) (gx_z hX (Or.inr rfl) rfl rfl)
    · rw [decide_eq_false c] at hX
      exact gx_t c (gx_f (show ¬ 0 < nI 0 from by decide) (gx_z hX (Or.inl rfl) rfl rfl))
  | succ e ih =>
    intro s he hs
    refine gm_mk gm_mX2_canMeet rfl ⟨Or.inr rfl, rfl, rfl, trivial⟩ (fun G X hC hX => ?_)
    have hC : gm_cl gm_mX2_canMeet gm_tyf none (gm_Sp gm_MT (d + 1 + e)) G X := hC
    have loop : ∀ (m r : Nat), r + m = 16 → X (.inl (some (.int (gB (sFst (fun r => decide (¬ A 22 r &&& (nI s &&& -(nI s)) = 0) && cmB (A 22) e (iX (nI s) (A 22 r))) m r).isSome)))) (gw A F nw nx LO DO) 0 0 → G 20 [some (.ref 21), some (.int (nI s)), some (.int (nI (e + 1))), some (.int (nI s &&& -(nI s))), some (.int (nI r))] [] (gw A F nw nx LO DO) 0 0 := by
      intro m
      induction m with
      | zero =>
        intro r hr hY
        have hr : r = 16 := by omega
        subst hr
        have hY : X (.inl (some (.int 0))) (gw A F nw nx LO DO) 0 0 := hY
        refine gm_run1 hC [20] 200 20 ?_
        exact gx_t (show (16 : Int32) ≤ nI 16 from by decide) (gx_z hY (Or.inl rfl) rfl rfl)
      | succ m ihm =>
        intro r hr hY
        have n1 : ¬ (16 : Int32) ≤ nI r := nI_ge (b := 16) (by omega) (by decide)
        have k0 := nI_clamp (n := r) (by omega)
        obtain ⟨s2, hs2, es2⟩ := iX_128 hs (A 22 r)
        have hcm := ih s2 (by omega) hs2
        rw [← es2, ← nI_pred e] at hcm
        unfold sFst at hY
        have nxt : ¬ (decide (¬ A 22 r &&& (nI s &&& -(nI s)) = 0) && cmB (A 22) e (iX (nI s) (A 22 r))) = true → G 20 [some (.ref 21), some (.int (nI s)), some (.int (nI (e + 1))), some (.int (nI s &&& -(nI s))), some (.int (nI r + 1))] [] (gw A F nw nx LO DO) 0 0 := fun c => by
          rw [if_neg c] at hY
          rw [nI_1]
          exact ihm (r + 1) (by omega) hY
        clear ihm ih
        by_cases c1 : A 22 r &&& (nI s &&& -(nI s)) = 0
        · have nxt := nxt (by rw [decide_eq_false (fun z => z c1), Bool.false_and]; decide)
          refine gm_run1 hC [20] 200 20 ?_
          refine gx_f n1 (And.intro (nI_in (by omega) (by decide)) ?_)
          rw [k0]
          exact gx_t (show A 22 r &&& (nI s &&& -(nI s)) = 0 from c1) nxt
        · cases c2 : cmB (A 22) e (iX (nI s) (A 22 r)) with
          | false =>
            rw [c2] at hcm
            have nxt := nxt (by rw [c2, Bool.and_false]; decide)
            refine gm_run1 hC [20] 200 20 ?_
            refine gx_f n1 (And.intro (nI_in (by omega) (by decide)) ?_)
            rw [k0]
            refine gx_f (show ¬ A 22 r &&& (nI s &&& -(nI s)) = 0 from c1) (And.intro (nI_in (by omega) (by decide)) ?_)
            rw [k0]
            exact Or.inl ⟨_, _, _, _, hcm, gx_t (show (0 : Int32) = 0 from rfl) nxt⟩
          | true =>
            rw [c2] at hcm
            rw [if_pos (by rw [decide_eq_true c1, c2]; rfl)] at hY
            have hY : X (.inl (some (.int 1))) (gw A F nw nx LO DO) 0 0 := hY
            refine gm_run1 hC [20] 200 20 ?_
            refine gx_f n1 (And.intro (nI_in (by omega) (by decide)) ?_)
            rw [k0]
            refine gx_f (show ¬ A 22 r &&& (nI s &&& -(nI s)) = 0 from c1) (And.intro (nI_in (by omega) (by decide)) ?_)
            rw [k0]
            exact Or.inl ⟨_, _, _, _, hcm, gx_f (show ¬ (1 : Int32) = 0 from by decide) (gx_z hY (Or.inr rfl) rfl rfl)⟩
    unfold cmB at hX
    by_cases c : nI s = 0
    · rw [decide_eq_true c, Bool.true_or] at hX
      refine gm_runs hC [20] 200 _ _ _ _ _ _ ?_
      exact gx_f (show ¬ ¬ nI s = 0 from fun z => z c) (gx_z hX (Or.inr rfl) rfl rfl)
    · rw [decide_eq_false c, Bool.false_or] at hX
      have h9 := loop 16 0 rfl hX
      refine gm_runs hC [20] 200 _ _ _ _ _ _ ?_
      exact gx_t c (gx_t (show 0 < nI (e + 1) from nI_lt (a := 0) (by omega) (by omega)) h9)
theorem s_byTrying {W : Nat} (hW : W < 128) (hF : F 11 = nI W) : gm_Sp gm_MT (d + 9) 3006 [.ref 21] (gw A F nw nx LO DO) (.inl (some (.int (gOI (sFst (fun e => cmB (A 22) e (nI W)) 8 0))))) (gw A F nw nx LO DO) 0 0 := by
  refine gm_mk gm_mX2_fewestByTrying rfl ⟨Or.inr rfl, rfl, rfl, trivial⟩ (fun G X hC hX => ?_)
  have loop : ∀ (m e : Nat), e + m = 8 → X (.inl (some (.int (gOI (sFst (fun e => cmB (A 22) e (nI W)) m e))))) (gw A F nw nx LO DO) 0 0 → G 2 [some (.ref 21), some (.int (nI e))] [] (gw A F nw nx LO DO) 0 0 := by
    intro m
    induction m with
    | zero =>
      intro e he hY
      have he : e = 8 := by omega
      subst he
      have hY : X (.inl (some (.int (-1)))) (gw A F nw nx LO DO) 0 0 := hY
      refine gm_run1 hC [2] 200 2 ?_
      exact gx_t (show (7 : Int32) < nI 8 from by decide) (gx_i hY (by decide) rfl)
    | succ m ih =>
      intro e he hY
      have n1 : ¬ (7 : Int32) < nI e := nI_nlt (a := 7) (by omega) (by decide)
      have hcm := s_canMeet (A := A) (F := F) (nw := nw) (nx := nx) (LO := LO) (DO := DO) (d := d + (7 - e)) e W (by omega) hW
      rw [show d + (7 - e) + 1 + e = d + 8 by omega, ← hF] at hcm
      unfold sFst at hY
      rw [hF] at hcm
      cases c : cmB (A 22) e (nI W) with
      | false =>
        rw [c] at hcm
        rw [if_neg (by rw [c]; decide)] at hY
        have h9 := ih (e + 1) (by omega) hY
        rw [← nI_1] at h9
        rw [← hF] at hcm
        refine gm_run1 hC [2] 200 2 ?_
        exact gx_f n1 (Or.inl ⟨_, _, _, _, hcm, gx_t (show (0 : Int32) = 0 from rfl) h9⟩)
      | true =>
        rw [c] at hcm
        rw [if_pos c] at hY
        have hY : X (.inl (some (.int (nI e)))) (gw A F nw nx LO DO) 0 0 := hY
        rw [← hF] at hcm
        refine gm_run1 hC [2] 200 2 ?_
        exact gx_f n1 (Or.inl ⟨_, _, _, _, hcm, gx_f (show ¬ (1 : Int32) = 0 from by decide) (gx_i hY rfl rfl)⟩)
  refine gm_runs hC [2] 200 _ _ _ _ _ _ ?_
  exact loop 8 0 rfl hX
end X