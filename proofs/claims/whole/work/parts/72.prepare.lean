/-! THE PROVER'S SEARCH, made ready -/
def spFree (A : Nat → Nat → Int32) (F : Nat → Int32) (n : Nat) : Int32 := if F 9 = 0 then sAl (A 19) (A 20) n 0 65535 else sAl (A 19) (A 20) n 0 65535 &&& (F 10 ^^^ (-1))
def spPl (A : Nat → Nat → Int32) (F : Nat → Int32) (n j : Nat) : Int32 := (if j = 6 then F 10 else A 20 j) &&& spFree A F n
def spWd (A : Nat → Nat → Int32) (F : Nat → Int32) (n j : Nat) : Bool := (decide (j < n) && decide (¬ A 19 j = 0)) || (decide (j = 6) && decide (F 9 = 0))
/-- the rows tell just the demands that are done -/
def spQ (pl : Nat → Int32) (done : Nat → Bool) (f : Nat → Int32) (W : Int32) : Prop := (∀ r, r < 16 → ∀ j, j < 32 → iB (f r) j = (done j && iB (pl j) r)) ∧ ∀ j, j < 32 → iB W j = done j
theorem spQ.want {pl : Nat → Int32} {done : Nat → Bool} {f f' : Nat → Int32} {W : Int32} (h : spQ pl done f W) {i : Nat} (hi : i < 32) (hf : ∀ r, r < 16 → f' r = if sIn (nI r) (pl i) = true then f r ||| ((1 : Int32) <<< (nI i &&& 31)) else f r) : spQ pl (fun j => done j || decide (j = i)) f' (W ||| ((1 : Int32) <<< (nI i &&& 31))) := by
  refine ⟨fun r hr j hj => ?_, fun j hj => ?_⟩
  · show iB (f' r) j = ((done j || decide (j = i)) && iB (pl j) r)
    rw [hf r hr, sIn_iB (by omega)]
    by_cases c : iB (pl i) r = true
    · rw [if_pos c, iB_or, iB_shl i hi j hj, h.1 r hr j hj]
      by_cases e : j = i
      · rw [decide_eq_true e, e, c]; cases done i <;> rfl
      · rw [decide_eq_false e, Bool.or_false, Bool.or_false]
    · rw [if_neg c, h.1 r hr j hj]
      by_cases e : j = i
      · rw [e]
        cases hb : iB (pl i) r with
        | true => exact absurd hb c
        | false => rw [Bool.and_false, Bool.and_false]
      · rw [decide_eq_false e, Bool.or_false]
  · rw [iB_or, iB_shl i hi j hj, h.2 j hj]
theorem spQ.congr {pl : Nat → Int32} {done done' : Nat → Bool} {f : Nat → Int32} {W : Int32} (h : spQ pl done f W) (e : ∀ j, j < 32 → done j = done' j) : spQ pl done' f W := ⟨fun r hr j hj => by rw [h.1 r hr j hj, e j hj], fun j hj => by rw [h.2 j hj, e j hj]⟩
section X
variable {nw nx : Nat} {LO : Nat → Int64} {DO : Nat → UInt64} {d n : Nat} {A : Nat → Nat → Int32} {F : Nat → Int32}
theorem s_want (g : Nat → Int32) (y : Int32) {i : Nat} (P : Int32) : ∃ f', (∀ r, r < 16 → f' r = if sIn (nI r) P = true then g r ||| ((1 : Int32) <<< (nI i &&& 31)) else g r) ∧ gm_Sp gm_MT (d + 2) 3002 [.ref 21, .int (nI i), .int P] (gw (va_up A 22 g) (va_up F 11 y) nw nx LO DO) (.inl none) (gw (va_up A 22 f') (va_up F 11 (y ||| ((1 : Int32) <<< (nI i &&& 31)))) nw nx LO DO) 0 0 := by
  generalize hb : (1 : Int32) <<< (nI i &&& 31) = b
  have loop : ∀ (m r : Nat) (f : Nat → Int32), r + m = 16 → (∀ t, t < r → f t = if sIn (nI t) P = true then g t ||| b else g t) → (∀ t, r ≤ t → f t = g t) → ∃ f', (∀ t, t < 16 → f' t = if sIn (nI t) P = true then g t ||| b else g t) ∧ ∀ (G : pG) (X : pX), gm_cl gm_mX2_want gm_tyf none (gm_Sp gm_MT (d + 1)) G X → X (.inl none) (gw (va_up A 22 f') (va_up F 11 (y ||| b)) nw nx LO DO) 0 0 → G 14 [some (.ref 21), some (.int (nI i)), some (.int P), some (.int (nI r))] [] (gw (va_up A 22 f) (va_up F 11 (y ||| b)) nw nx LO DO) 0 0 := by
    intro m
    induction m with
    | zero =>
      intro r f hr h1 h2
      have hr : r = 16 := by omega
      subst hr
      refine ⟨f, h1, fun G X hC hX => ?_⟩
      refine gm_run1 hC [14] 200 14 ?_
      exact gx_t (show (16 : Int32) ≤ nI 16 from by decide) hX
    | succ m ih =>
      intro r f hr h1 h2
      have n1 : ¬ (16 : Int32) ≤ nI r := nI_ge (b := 16) (by omega) (by decide)
      have k0 := nI_clamp (n := r) (by omega)
      have hin : gm_Sp gm_MT (d + 1) 7021 [.int (nI r), .int P] (gw (va_up A 22 f) (va_up F 11 (y ||| b)) nw nx LO DO) (.inl (some (.int (gB (sIn (nI r) P))))) (gw (va_up A 22 f) (va_up F 11 (y ||| b)) nw nx LO DO) 0 0 := s_isIn (nI r) P
      cases c : sIn (nI r) P with
      | false =>
        rw [c] at hin
        obtain ⟨f', g1, g2⟩ := ih (r + 1) f (by omega) (fun t ht => by
          by_cases e : t = r
          · rw [e, c, if_neg (by decide)]; exact h2 r (Nat.le_refl _)
          · exact h1 t (by omega)) (fun t ht => h2 t (by omega))
        refine ⟨f', g1, fun G X hC hX => ?_⟩
        have h9 := g2 G X hC hX
        rw [← nI_1] at h9
        refine gm_run1 hC [14] 200 14 ?_
        exact gx_f n1 ⟨_, _, _, _, hin, gx_t (show (0 : Int32) = 0 from rfl) h9⟩
      | true =>
        rw [c] at hin
        obtain ⟨f', g1, g2⟩ := ih (r + 1) (upd f r (f r ||| b)) (by omega) (fun t ht => by
          by_cases e : t = r
          · rw [e, c, if_pos rfl, upd_at, h2 r (Nat.le_refl _)]
          · rw [upd_lt (by omega)]; exact h1 t (by omega)) (fun t ht => by
            rw [show upd f r (f r ||| b) t = f t from if_neg (by omega)]
            exact h2 t (by omega))
        refine ⟨f', g1, fun G X hC hX => ?_⟩
        have h9 := g2 G X hC hX
        rw [← nI_1] at h9
        refine gm_run1 hC [14] 200 14 ?_
        refine gx_f n1 ⟨_, _, _, _, hin, gx_f (show ¬ (1 : Int32) = 0 from by decide) (And.intro (nI_in (by omega) (by decide)) (And.intro (nI_in (by omega) (by decide)) ?_))⟩
        show G 14 [some (.ref 21), some (.int (nI i)), some (.int P), some (.int (nI r + 1))] [] (gw (va_up A 22 (upd f (nI r).toNatClampNeg (f (nI r).toNatClampNeg ||| ((1 : Int32) <<< (nI i &&& 31))))) (va_up F 11 (y ||| b)) nw nx LO DO) 0 0
        rw [k0, hb]
        exact h9
  obtain ⟨f', g1, g2⟩ := loop 16 0 g rfl (fun t ht => by omega) (fun _ _ => rfl)
  refine ⟨f', g1, gm_mk gm_mX2_want rfl ⟨Or.inr rfl, rfl, rfl, trivial⟩ (fun G X hC hX => ?_)⟩
  have h9 := g2 G X hC hX
  refine gm_runs hC [14] 200 _ _ _ _ _ _ ?_
  show G 14 [some (.ref 21), some (.int (nI i)), some (.int P), some (.int (nI 0))] [] (gw (va_up A 22 g) (va_up F 11 (y ||| ((1 : Int32) <<< (nI i &&& 31)))) nw nx LO DO) 0 0
  rw [hb]
  exact h9
theorem s_prep_loop (hF : F 7 = nI n) (hn : n ≤ 6) {fr : Int32} (hfr : fr = spFree A F n) : ∀ (m i : Nat) (f : Nat → Int32) (W : Int32), i + m = n → spQ (spPl A F n) (fun j => (decide (j < i) && decide (¬ A 19 j = 0)) || (decide (j = 6) && decide (F 9 = 0))) f W → ∃ f' W', spQ (spPl A F n) (spWd A F n) f' W' ∧ ∀ (G : pG) (X : pX), gm_cl gm_mX2_prepare gm_tyf none (gm_Sp gm_MT (d + 2)) G X → X (.inl none) (gw (va_up A 22 f') (va_up F 11 W') nw nx LO DO) 0 0 → G 64 [some (.ref 21), some (.ref 18), some (.int fr), some (.int (nI i))] [] (gw (va_up A 22 f) (va_up F 11 W) nw nx LO DO) 0 0 := by
  intro m
  induction m with
  | zero =>
    intro i f W hi hq
    have hi : i = n := by omega
    subst hi
    refine ⟨f, W, hq, fun G X hC hX => ?_⟩
    have hh : gm_Sp gm_MT (d + 2) 4001 [.ref 18] (gw (va_up A 22 f) (va_up F 11 W) nw nx LO DO) (.inl (some (.int (F 7)))) (gw (va_up A 22 f) (va_up F 11 W) nw nx LO DO) 0 0 := s_howMany3 (A := va_up A 22 f) (F := va_up F 11 W) (d := d + 1)
    refine gm_run1 hC [64] 200 64 ?_
    exact Or.inl ⟨_, _, _, _, hh, gx_t (show F 7 ≤ nI i from by rw [hF]; exact Int32.le_refl _) hX⟩
  | succ m ih =>
    intro i f W hi hq
    have hh : gm_Sp gm_MT (d + 2) 4001 [.ref 18] (gw (va_up A 22 f) (va_up F 11 W) nw nx LO DO) (.inl (some (.int (F 7)))) (gw (va_up A 22 f) (va_up F 11 W) nw nx LO DO) 0 0 := s_howMany3 (A := va_up A 22 f) (F := va_up F 11 W) (d := d + 1)
    have hd : gm_Sp gm_MT (d + 2) 4004 [.ref 18, .int (nI i)] (gw (va_up A 22 f) (va_up F 11 W) nw nx LO DO) (.inl (some (.int (gB (decide (¬ A 19 i = 0)))))) (gw (va_up A 22 f) (va_up F 11 W) nw nx LO DO) 0 0 := s_demandsN (A := va_up A 22 f) (F := va_up F 11 W) (d := d + 1) hF hn (by omega)
    have hp : gm_Sp gm_MT (d + 2) 4005 [.ref 18, .int (nI i)] (gw (va_up A 22 f) (va_up F 11 W) nw nx LO DO) (.inl (some (.int (A 20 i)))) (gw (va_up A 22 f) (va_up F 11 W) nw nx LO DO) 0 0 := s_placesN (A := va_up A 22 f) (F := va_up F 11 W) (d := d + 1) hF hn (by omega)
    have n1 : ¬ F 7 ≤ nI i := by rw [hF]; exact nI_ge (by omega) (by omega)
    by_cases c : A 19 i = 0
    · rw [decide_eq_false (fun z => z c)] at hd
      obtain ⟨f', W', g1, g2⟩ := ih (i + 1) f W (by omega) (hq.congr (fun j hj => by
        by_cases e : j = i
        · rw [e, decide_eq_false (show ¬ ¬ A 19 i = 0 from fun z => z c), Bool.and_false, Bool.and_false]
        · congr 2
          exact decide_eq_decide.mpr (by omega)))
      refine ⟨f', W', g1, fun G X hC hX => ?_⟩
      have h9 := g2 G X hC hX
      rw [← nI_1] at h9
      refine gm_run1 hC [64] 200 64 ?_
      exact Or.inl ⟨_, _, _, _, hh, gx_f n1 (Or.inl ⟨_, _, _, _, hd, gx_t (show (0 : Int32) = 0 from rfl) h9⟩)⟩
    · rw [decide_eq_true c] at hd
      obtain ⟨f1, w1, w2⟩ := s_want (A := A) (F := F) (nw := nw) (nx := nx) (LO := LO) (DO := DO) (d := d) f W (i := i) (A 20 i &&& fr)
      have epl : A 20 i &&& fr = spPl A F n i := by unfold spPl; rw [if_neg (by omega), hfr]
      rw [epl] at w1
      obtain ⟨f', W', g1, g2⟩ := ih (i + 1) f1 _ (by omega) ((hq.want (by omega) w1).congr (fun j hj => by
        by_cases e : j = i
        · rw [e, decide_eq_true c, decide_eq_true (show i < i + 1 by omega), decide_eq_true (show i = i from rfl)]
          simp
        · rw [decide_eq_false e, Bool.or_false]
          congr 2
          exact decide_eq_decide.mpr (by omega)))
      refine ⟨f', W', g1, fun G X hC hX => ?_⟩
      have h9 := g2 G X hC hX
      rw [← nI_1] at h9
      refine gm_run1 hC [64] 200 64 ?_
      exact Or.inl ⟨_, _, _, _, hh, gx_f n1 (Or.inl ⟨_, _, _, _, hd, gx_f (show ¬ (1 : Int32) = 0 from by decide) (Or.inl ⟨_, _, _, _, hp, Or.inl ⟨_, _, _, _, w2, h9⟩⟩)⟩)⟩
theorem s_prep_zero : ∀ (m i : Nat) (f : Nat → Int32), i + m = 16 → (∀ t, t < i → f t = 0) → ∃ f', (∀ t, t < 16 → f' t = 0) ∧ ∀ (G : pG) (X : pX), gm_cl gm_mX2_prepare gm_tyf none (gm_Sp gm_MT (d + 2)) G X → G 21 [some (.ref 21), some (.ref 18), some (.int (nI 16)), none] [] (gw (va_up A 22 f') F nw nx LO DO) 0 0 → G 2 [some (.ref 21), some (.ref 18), some (.int (nI i)), none] [] (gw (va_up A 22 f) F nw nx LO DO) 0 0 := by
  intro m
  induction m with
  | zero =>
    intro i f hi h1
    have hi : i = 16 := by omega
    subst hi
    refine ⟨f, h1, fun G X hC hX => ?_⟩
    refine gm_run1 hC [2, 21] 200 2 ?_
    exact gx_t (show (16 : Int32) ≤ nI 16 from by decide) hX
  | succ m ih =>
    intro i f hi h1
    have n1 : ¬ (16 : Int32) ≤ nI i := nI_ge (b := 16) (by omega) (by decide)
    have k0 := nI_clamp (n := i) (by omega)
    obtain ⟨f', g1, g2⟩ := ih (i + 1) (upd f i 0) (by omega) (fun t ht => by
      by_cases e : t = i
      · rw [e, upd_at]
      · rw [upd_lt (by omega)]; exact h1 t (by omega))
    refine ⟨f', g1, fun G X hC hX => ?_⟩
    have h9 := g2 G X hC hX
    rw [← nI_1] at h9
    refine gm_run1 hC [2, 21] 200 2 ?_
    refine gx_f n1 (And.intro (nI_in (by omega) (by decide)) ?_)
    rw [k0]
    exact h9
theorem s_prepare (hF : F 7 = nI n) (hn : n ≤ 6) (h9 : F 9 = 0 ∨ F 9 = 1) : ∃ f W, spQ (spPl A F n) (spWd A F n) f W ∧ gm_Sp gm_MT (d + 3) 3001 [.ref 21, .ref 18] (gw A F nw nx LO DO) (.inl none) (gw (va_up A 22 f) (va_up F 11 W) nw nx LO DO) 0 0 := by
  obtain ⟨f0, z1, z2⟩ := s_prep_zero (A := A) (F := F) (nw := nw) (nx := nx) (LO := LO) (DO := DO) (d := d) 16 0 (A 22) rfl (fun t ht => by omega)
  have q0 : spQ (spPl A F n) (fun _ => false) f0 0 := ⟨fun r hr j hj => by rw [z1 r hr, iB_0]; rfl, fun j hj => iB_0 j⟩
  have ha : gm_Sp gm_MT (d + 2) 4010 [.ref 18] (gw (va_up A 22 f0) (va_up F 11 0) nw nx LO DO) (.inl (some (.int (sAl (A 19) (A 20) n 0 65535)))) (gw (va_up A 22 f0) (va_up F 11 0) nw nx LO DO) 0 0 := s_allowed (A := va_up A 22 f0) (F := va_up F 11 0) (d := d) hF hn
  have hgd : gm_Sp gm_MT (d + 2) 4007 [.ref 18] (gw (va_up A 22 f0) (va_up F 11 0) nw nx LO DO) (.inl (some (.int (F 9)))) (gw (va_up A 22 f0) (va_up F 11 0) nw nx LO DO) 0 0 := s_goalDemands (A := va_up A 22 f0) (F := va_up F 11 0) (d := d + 1) h9
  have hgr : gm_Sp gm_MT (d + 2) 4008 [.ref 18] (gw (va_up A 22 f0) (va_up F 11 0) nw nx LO DO) (.inl (some (.int (F 10)))) (gw (va_up A 22 f0) (va_up F 11 0) nw nx LO DO) 0 0 := s_goalRegions (A := va_up A 22 f0) (F := va_up F 11 0) (d := d + 1)
  by_cases c : F 9 = 0
  · have efr : spFree A F n = sAl (A 19) (A 20) n 0 65535 := if_pos c
    obtain ⟨f1, w1, w2⟩ := s_want (A := A) (F := F) (nw := nw) (nx := nx) (LO := LO) (DO := DO) (d := d) f0 0 (i := 6) (F 10 &&& sAl (A 19) (A 20) n 0 65535)
    have epl : F 10 &&& sAl (A 19) (A 20) n 0 65535 = spPl A F n 6 := by unfold spPl; rw [if_pos rfl, efr]
    rw [epl] at w1
    obtain ⟨f', W', g1, g2⟩ := s_prep_loop (A := A) (F := F) (nw := nw) (nx := nx) (LO := LO) (DO := DO) (d := d) hF hn efr.symm n 0 f1 _ (by omega) ((q0.want (by decide) w1).congr (fun j hj => by
      rw [decide_eq_false (show ¬ j < 0 by omega), decide_eq_true c, Bool.false_and, Bool.and_true]))
    refine ⟨f', W', g1, gm_mk gm_mX2_prepare rfl ⟨Or.inr rfl, rfl, rfl, trivial⟩ (fun G X hC hX => ?_)⟩
    have e9 := g2 G X hC hX
    have s9 := z2 G X hC (by
      refine gm_runs hC [64] 200 _ _ _ _ _ _ ?_
      exact Or.inl ⟨_, _, _, _, ha, Or.inl ⟨_, _, _, _, hgd, gx_t c (Or.inl ⟨_, _, _, _, hgr, Or.inl ⟨_, _, _, _, w2, e9⟩⟩)⟩⟩)
    refine gm_runs hC [2] 200 _ _ _ _ _ _ ?_
    exact s9
  · have efr : spFree A F n = sAl (A 19) (A 20) n 0 65535 &&& (F 10 ^^^ (-1)) := if_neg c
    obtain ⟨f', W', g1, g2⟩ := s_prep_loop (A := A) (F := F) (nw := nw) (nx := nx) (LO := LO) (DO := DO) (d := d) hF hn efr.symm n 0 f0 0 (by omega) (q0.congr (fun j hj => by
      rw [decide_eq_false (show ¬ j < 0 by omega), decide_eq_false c, Bool.false_and, Bool.and_false]; rfl))
    refine ⟨f', W', g1, gm_mk gm_mX2_prepare rfl ⟨Or.inr rfl, rfl, rfl, trivial⟩ (fun G X hC hX => ?_)⟩
    have e9 := g2 G X hC hX
    have s9 := z2 G X hC (by
      refine gm_runs hC [64] 200 _ _ _ _ _ _ ?_
      exact Or.inl ⟨_, _, _, _, ha, Or.inl ⟨_, _, _, _, hgd, gx_f c (Or.inl ⟨_, _, _, _, hgr, e9⟩)⟩⟩)
    refine gm_runs hC [2] 200 _ _ _ _ _ _ ?_
    exact s9
end X