/-! THE REFERENCE'S COUNT OF MODELS -/
def wL : List Int32 → Nat → Int32 → Int32 → Int32
  | [], _, _, acc => acc
  | p :: l, i, s, acc => wL l (i + 1) s (if sIn (nI i) s = true then acc &&& (p ^^^ (-1)) else acc)
def wV (l : List Int32) (x : Int32) (e s : Nat) : Int64 := if bcF (nI s) - bcF (nI s) / 2 * 2 = 0 then lPow (bcF (wL l 0 (nI s) x)) e 1 else - lPow (bcF (wL l 0 (nI s) x)) e 1
section X
variable {nw nx : Nat} {LO : Nat → Int64} {DO : Nat → UInt64} {d n : Nat} {A : Nat → Nat → Int32} {F : Nat → Int32}
theorem s_ways_dm (h : mOk A n) (hF : F 22 = nI n) {v1 v2 : Int32} : ∀ (m i : Nat) (f : Nat → Int32) (o : List Int32), i + m = n → o.length + m ≤ 6 → gR f o → ∃ f', gR f' (o ++ mL (mD A) (mP A) m i) ∧ ∀ (G : pG) (X : pX), gm_cl gm_mX7_ways gm_tyf none (gm_Sp gm_MT (d + 3)) G X → G 53 [some (.ref 24), some (.int v1), some (.int v2), some (.int (nI (o ++ mL (mD A) (mP A) m i).length)), some (.int (nI n)), none, none, none, none] [] (gw (va_up A 36 f') F nw nx LO DO) 0 0 → G 10 [some (.ref 24), some (.int v1), some (.int v2), some (.int (nI o.length)), some (.int (nI i)), none, none, none, none] [] (gw (va_up A 36 f) F nw nx LO DO) 0 0 := by
  have h6 := h.1
  intro m
  induction m with
  | zero =>
    intro i f o hi ho hf
    have hi : i = n := by omega
    subst hi
    refine ⟨f, by rw [show mL (mD A) (mP A) 0 i = [] from rfl, List.append_nil]; exact hf, fun G X hC hY => ?_⟩
    rw [show mL (mD A) (mP A) 0 i = [] from rfl, List.append_nil] at hY
    refine gm_run1 hC [10, 53] 200 10 ?_
    exact gx_t (show F 22 ≤ nI i from by rw [hF]; exact nI_le (by omega) (by omega)) hY
  | succ m ih =>
    intro i f o hi ho hf
    have n1 : ¬ F 22 ≤ nI i := by rw [hF]; exact nI_ge (by omega) (by omega)
    have hd : gm_Sp gm_MT (d + 3) 8048 [.int (A 30 (nI i).toNatClampNeg)] (gw (va_up A 36 f) F nw nx LO DO) (.inl (some (.int (mD A i)))) (gw (va_up A 36 f) F nw nx LO DO) 0 0 := s_isDemandN (A := va_up A 36 f) (F := F) (nw := nw) (nx := nx) (LO := LO) (DO := DO) (d := d + 2) i (by omega)
    unfold mL
    by_cases c : mD A i = 0
    · rw [if_pos c]
      obtain ⟨f', g1, g2⟩ := ih (i + 1) f o (by omega) (by omega) hf
      refine ⟨f', g1, fun G X hC hY => ?_⟩
      have h9 := g2 G X hC hY
      rw [← nI_1] at h9
      refine gm_run1 hC [10, 53] 200 10 ?_
      exact gx_f n1 (And.intro (nI_in (by omega) (by decide)) (Or.inl ⟨_, _, _, _, hd, gx_t c h9⟩))
    · rw [if_neg c]
      have hg : gR (upd f o.length (mP A i)) (o ++ [mP A i]) := hf.push (mP A i)
      obtain ⟨f', g1, g2⟩ := ih (i + 1) (upd f o.length (mP A i)) (o ++ [mP A i]) (by omega) (by rw [List.length_append, List.length_singleton]; omega) hg
      rw [List.append_assoc] at g1
      refine ⟨f', g1, fun G X hC hY => ?_⟩
      have h9 := g2 G X hC (by rw [List.append_assoc]; exact hY)
      rw [← nI_1, List.length_append, List.length_singleton, ← nI_1] at h9
      have ha : gm_Sp gm_MT (d + 3) 8050 [.ref 24, .int (nI i)] (gw (va_up A 36 f) F nw nx LO DO) (.inl (some (.int (mP A i)))) (gw (va_up A 36 f) F nw nx LO DO) 0 0 := s_assumed (A := va_up A 36 f) (F := F) (nw := nw) (nx := nx) (LO := LO) (DO := DO) (d := d + 1) h (j := i) (by omega)
      have k0 := nI_clamp (n := o.length) (by omega)
      refine gm_run1 hC [10, 53] 200 10 ?_
      refine gx_f n1 (And.intro (nI_in (by omega) (by decide)) (Or.inl ⟨_, _, _, _, hd, gx_f c (Or.inl ⟨_, _, _, _, ha, And.intro (nI_in (by omega) (by decide)) ?_⟩)⟩))
      rw [k0]
      exact h9
theorem s_ways_in {l : List Int32} (hl : l.length ≤ 6) (hg : gR (A 36) l) {v1 v2 s : Int32} {u : Int64} (G : pG) (X : pX) (hC : gm_cl gm_mX7_ways gm_tyf none (gm_Sp gm_MT (d + 3)) G X) : ∀ (r : List Int32) (i : Nat) (acc : Int32), i + r.length = l.length → (∀ t, t < r.length → r[t]? = some (A 36 (i + t))) → G 110 [some (.ref 24), some (.int v1), some (.int v2), some (.int (nI l.length)), some (.long u), none, some (.int s), some (.int (wL r i s acc)), some (.int (nI l.length))] [] (gw A F nw nx LO DO) 0 0 → G 73 [some (.ref 24), some (.int v1), some (.int v2), some (.int (nI l.length)), some (.long u), none, some (.int s), some (.int acc), some (.int (nI i))] [] (gw A F nw nx LO DO) 0 0 := by
  intro r
  induction r with
  | nil =>
    intro i acc hi hs hY
    rw [List.length_nil, Nat.add_zero] at hi
    subst hi
    refine gm_run1 hC [73, 110] 200 73 ?_
    exact gx_t (show nI l.length ≤ nI l.length from Int32.le_refl _) hY
  | cons p r ih =>
    intro i acc hi hs hY
    rw [List.length_cons] at hi
    have n1 : ¬ nI l.length ≤ nI i := nI_ge (by omega) (by omega)
    have k0 := nI_clamp (n := i) (by omega)
    have ep : A 36 i = p := by
      have := hs 0 (by rw [List.length_cons]; omega)
      rw [List.getElem?_cons_zero] at this
      exact (Option.some.inj this).symm
    unfold wL at hY
    have h9 := ih (i + 1) _ (by omega) (fun t ht => by
      have := hs (t + 1) (by rw [List.length_cons]; omega)
      rw [List.getElem?_cons_succ] at this
      rw [this]
      congr 2
      omega) hY
    rw [← nI_1] at h9
    by_cases c : sIn (nI i) s = true
    · rw [if_pos c] at h9
      have c2 := of_decide_eq_true c
      refine gm_run1 hC [73, 110] 200 73 ?_
      refine gx_f n1 (gx_f (show ¬ ¬ (s >>> (nI i &&& 31)) &&& 1 = 1 from fun z => z c2) (And.intro (nI_in (by omega) (by decide)) ?_))
      rw [k0, ep]
      exact h9
    · rw [if_neg c] at h9
      have c2 := of_decide_eq_false (Bool.eq_false_iff.mpr c)
      refine gm_run1 hC [73, 110] 200 73 ?_
      exact gx_f n1 (gx_t (show ¬ (s >>> (nI i &&& 31)) &&& 1 = 1 from c2) h9)
theorem s_ways (h : mOk A n) (hF : F 22 = nI n) {e : Nat} (he : e < 2 ^ 31) : ∃ f', gm_Sp gm_MT (d + 4) 8074 [.ref 24, .int (nI e)] (gw A F nw nx LO DO) (.inl (some (.long (lSum (fun _ => true) (wV (mL (mD A) (mP A) n 0) (mAl A n) e) (2 ^ (mL (mD A) (mP A) n 0).length) 0 0)))) (gw (va_up A 36 f') F nw nx LO DO) 0 0 := by
  have h6 := h.1
  have ha := s_allowed7 (F := F) (nw := nw) (nx := nx) (LO := LO) (DO := DO) (d := d) h hF
  have hlen := mL_len (mD A) (mP A) n 0
  obtain ⟨f', g1, g2⟩ := s_ways_dm (F := F) (nw := nw) (nx := nx) (LO := LO) (DO := DO) (d := d) h hF (v1 := nI e) (v2 := mAl A n) n 0 (A 36) [] (by omega) (by rw [List.length_nil]; omega) (fun i hi => by rw [List.length_nil] at hi; omega)
  rw [List.nil_append] at g1 g2
  generalize mL (mD A) (mP A) n 0 = l at g1 g2 hlen
  have h2n : 2 ^ l.length ≤ 64 := Nat.le_trans (Nat.pow_le_pow_right (by decide) (show l.length ≤ 6 by omega)) (by decide)
  have hsh := nI_shl6 l.length (by omega)
  refine ⟨f', gm_mk gm_mX7_ways rfl ⟨Or.inr rfl, rfl, rfl, trivial⟩ (fun G X hC hX => ?_)⟩
  have hC : gm_cl gm_mX7_ways gm_tyf none (gm_Sp gm_MT (d + 3)) G X := hC
  have loop : ∀ (m s : Nat) (acc : Int64) (o7 o8 : Option Value), s + m = 2 ^ l.length → X (.inl (some (.long (lSum (fun _ => true) (wV l (mAl A n) e) m s acc)))) (gw (va_up A 36 f') F nw nx LO DO) 0 0 → G 59 [some (.ref 24), some (.int (nI e)), some (.int (mAl A n)), some (.int (nI l.length)), some (.long acc), none, some (.int (nI s)), o7, o8] [] (gw (va_up A 36 f') F nw nx LO DO) 0 0 := by
    intro m
    induction m with
    | zero =>
      intro s acc o7 o8 hs hY
      have hs : s = 2 ^ l.length := by omega
      refine gm_run1 hC [59, 73, 110] 200 59 ?_
      exact gx_t (show (1 : Int32) <<< (nI l.length &&& 31) ≤ nI s from by rw [hsh, hs]; exact Int32.le_refl _) hY
    | succ m ih =>
      intro s acc o7 o8 hs hY
      have n1 : ¬ (1 : Int32) <<< (nI l.length &&& 31) ≤ nI s := by rw [hsh]; exact nI_ge (by omega) (by omega)
      have hb := s_bitCount (A := va_up A 36 f') (F := F) (nw := nw) (nx := nx) (LO := LO) (DO := DO) (d := d + 2) (nI s)
      have hb2 := s_bitCount (A := va_up A 36 f') (F := F) (nw := nw) (nx := nx) (LO := LO) (DO := DO) (d := d + 2) (wL l 0 (nI s) (mAl A n))
      have hp := s_power7 (A := va_up A 36 f') (F := F) (nw := nw) (nx := nx) (LO := LO) (DO := DO) (d := d + 2) (bcF (wL l 0 (nI s) (mAl A n))) he
      have hY : X (.inl (some (.long (lSum (fun _ => true) (wV l (mAl A n) e) m (s + 1) (acc + wV l (mAl A n) e s))))) (gw (va_up A 36 f') F nw nx LO DO) 0 0 := hY
      have h9 := ih (s + 1) _ (some (.int (wL l 0 (nI s) (mAl A n)))) (some (.int (nI l.length))) (by omega) hY
      rw [← nI_1] at h9
      unfold wV at h9
      have h8 := s_ways_in (A := va_up A 36 f') (F := F) (nw := nw) (nx := nx) (LO := LO) (DO := DO) (d := d) (show l.length ≤ 6 by omega) g1 (v1 := nI e) (v2 := mAl A n) (s := nI s) (u := acc) G X hC l 0 (mAl A n) (by omega) (fun t ht => by rw [Nat.zero_add]; exact g1 t ht) (by
        by_cases c : bcF (nI s) - bcF (nI s) / 2 * 2 = 0
        · rw [if_pos c, ← Int64.one_mul (lPow _ _ _)] at h9
          refine gm_run1 hC [59, 73] 200 110 ?_
          exact Or.inl ⟨_, _, _, _, hb, And.intro (by decide) (gx_f (show ¬ ¬ bcF (nI s) - bcF (nI s) / 2 * 2 = 0 from fun z => z c) (Or.inl ⟨_, _, _, _, hb2, Or.inl ⟨_, _, _, _, hp, h9⟩⟩))⟩
        · rw [if_neg c, ← Int64.one_mul (lPow _ _ _), ← Int64.neg_mul] at h9
          refine gm_run1 hC [59, 73] 200 110 ?_
          exact Or.inl ⟨_, _, _, _, hb, And.intro (by decide) (gx_t (show ¬ bcF (nI s) - bcF (nI s) / 2 * 2 = 0 from c) (Or.inl ⟨_, _, _, _, hb2, Or.inl ⟨_, _, _, _, hp, h9⟩⟩))⟩)
      refine gm_run1 hC [59, 73, 110] 200 59 ?_
      exact gx_f n1 h8
  have h7 := g2 G X hC (by
    have h5 := loop (2 ^ l.length) 0 0 none none (by omega) hX
    refine gm_run1 hC [59] 200 53 ?_
    exact h5)
  refine gm_runs hC [10] 200 _ _ _ _ _ _ ?_
  exact Or.inl ⟨_, _, _, _, ha, h7⟩
end X