/-! THE REFERENCE'S CHOICES -/
theorem i_and1 (y : Int32) : (iB y 0 = true ∧ y &&& 1 = 1) ∨ (iB y 0 = false ∧ y &&& 1 = 0) := by
  have e : ∀ k, k < 32 → iB (y &&& 1) k = (iB y 0 && decide (k = 0)) := by
    intro k hk
    rw [iB_and, show (1 : Int32) = nI 1 from rfl, iB_nI 1 hk, tb1 k hk]
    by_cases c : k = 0
    · rw [c]
    · rw [decide_eq_false c, Bool.and_false, Bool.and_false]
  cases hb : iB y 0 with
  | true =>
    refine Or.inl ⟨rfl, iB_ext (fun k hk => ?_)⟩
    rw [e k hk, hb, Bool.true_and, show (1 : Int32) = nI 1 from rfl, iB_nI 1 hk, tb1 k hk]
  | false =>
    refine Or.inr ⟨rfl, iB_ext (fun k hk => ?_)⟩
    rw [e k hk, hb, Bool.false_and, iB_0]
theorem i_bit {r : Nat} (hr : r < 32) (x : Int32) : (x >>> (nI r &&& 31)) &&& 1 = 0 ↔ ¬ iB x r = true := by
  have h := sIn_iB hr x
  unfold sIn at h
  rcases i_and1 (x >>> (nI r &&& 31)) with ⟨-, c⟩ | ⟨-, c⟩
  · rw [c] at h ⊢
    rw [← h]
    decide
  · rw [c] at h ⊢
    rw [← h]
    decide
section X
variable {nw nx : Nat} {LO : Nat → Int64} {DO : Nat → UInt64} {d : Nat} {A : Nat → Nat → Int32} {F : Nat → Int32} {dl : List Int32} {inn : Int32} {M : Nat → Int32} {Rl : Int32 → Int32 → Prop}
theorem s_choose_base (hl : dl.length ≤ 7) (hg : gR (A 36) dl) (hF : F 26 = nI dl.length) {c : Nat → Int32} {v1 v2 v3 set : Int32} (G : pG) (X : pX) (hC : gm_cl gm_mX7_choose gm_tyf none (gm_Sp gm_MT d) G X) : ∀ (s : List Int32) (i : Nat), i + s.length = dl.length → (∀ t, t < s.length → s[t]? = some (A 36 (i + t))) → X (.inl (some (.int (gB (s.all (fun p => decide (¬ p &&& set = 0))))))) (gw (va_up A 35 c) F nw nx LO DO) 0 0 → G 8 [some (.ref 24), some (.int v1), some (.int v2), some (.int v3), some (.int set), some (.int inn), some (.int (nI i))] [] (gw (va_up A 35 c) F nw nx LO DO) 0 0 := by
  intro s
  induction s with
  | nil =>
    intro i hi hs hY
    rw [List.length_nil, Nat.add_zero] at hi
    subst hi
    have hY : X (.inl (some (.int 1))) (gw (va_up A 35 c) F nw nx LO DO) 0 0 := hY
    refine gm_run1 hC [8] 200 8 ?_
    exact gx_t (show F 26 ≤ nI dl.length from by rw [hF]; exact Int32.le_refl _) (gx_z hY (Or.inr rfl) rfl rfl)
  | cons p s ih =>
    intro i hi hs hY
    rw [List.length_cons] at hi
    have n1 : ¬ F 26 ≤ nI i := by rw [hF]; exact nI_ge (by omega) (by omega)
    have k0 := nI_clamp (n := i) (by omega)
    have ep : A 36 i = p := by
      have := hs 0 (by rw [List.length_cons]; omega)
      rw [List.getElem?_cons_zero] at this
      exact (Option.some.inj this).symm
    rw [List.all_cons] at hY
    by_cases c1 : p &&& set = 0
    · rw [decide_eq_false (fun z => z c1), Bool.false_and] at hY
      refine gm_run1 hC [8] 200 8 ?_
      exact gx_f n1 (And.intro (nI_in (by omega) (by decide)) (gx_f (show ¬ ¬ A 36 (nI i).toNatClampNeg &&& set = 0 from by rw [k0, ep]; exact fun z => z c1) (gx_z hY (Or.inl rfl) rfl rfl)))
    · rw [decide_eq_true c1, Bool.true_and] at hY
      have h9 := ih (i + 1) (by omega) (fun t ht => by
        have := hs (t + 1) (by rw [List.length_cons]; omega)
        rw [List.getElem?_cons_succ] at this
        rw [this]
        congr 2
        omega) hY
      rw [← nI_1] at h9
      refine gm_run1 hC [8] 200 8 ?_
      exact gx_f n1 (And.intro (nI_in (by omega) (by decide)) (gx_t (show ¬ A 36 (nI i).toNatClampNeg &&& set = 0 from by rw [k0, ep]; exact c1) h9))
theorem s_choose (h1 : ∀ set S, Rl set S → ((dl.all (fun p => decide (¬ p &&& set = 0))) = decide (S = 0))) (h2 : ∀ set S r, r < 16 → Rl set S → iB inn r = true → Rl (set ||| ((1 : Int32) <<< (nI r &&& 31))) (iX S (M r))) (hl : dl.length ≤ 7) (hg : gR (A 36) dl) (hF : F 26 = nI dl.length) : ∀ (k m at' : Nat) (c : Nat → Int32) (set S : Int32), at' + k ≤ 7 → m ≤ 16 → Rl set S → ∃ g, (∀ t, t < at' → g t = c t) ∧ (∀ l, gch M inn m k S = some l → ∀ t r, l[t]? = some r → g (at' + t) = nI r) ∧ gm_Sp gm_MT (d + 1 + k) 8067 [.ref 24, .int (nI (16 - m)), .int (nI at'), .int (nI (at' + k)), .int set, .int inn] (gw (va_up A 35 c) F nw nx LO DO) (.inl (some (.int (gB (gch M inn m k S).isSome)))) (gw (va_up A 35 g) F nw nx LO DO) 0 0 := by
  intro k
  induction k with
  | zero =>
    intro m at' c set S hat hm hR
    refine ⟨c, fun _ _ => rfl, fun l hl => ?_, gm_mk gm_mX7_choose rfl ⟨Or.inr rfl, rfl, rfl, trivial⟩ (fun G X hC hX => ?_)⟩
    · rw [gch_z] at hl
      by_cases e : S = 0
      · rw [if_pos e] at hl
        cases hl
        intro t r ht
        cases ht
      · rw [if_neg e] at hl; cases hl
    · have e : (gch M inn m 0 S).isSome = dl.all (fun p => decide (¬ p &&& set = 0)) := by
        rw [h1 set S hR, gch_z]
        by_cases e : S = 0
        · rw [if_pos e, decide_eq_true e]; rfl
        · rw [if_neg e, decide_eq_false e]; rfl
      rw [e] at hX
      have h9 := s_choose_base (inn := inn) (v1 := nI (16 - m)) (v2 := nI at') (v3 := nI (at' + 0)) hl hg hF G X hC dl 0 (by omega) (fun t ht => by rw [Nat.zero_add]; exact hg t ht) hX
      refine gm_runs hC [8] 200 _ _ _ _ _ _ ?_
      exact gx_f (show ¬ ¬ nI at' = nI (at' + 0) from fun z => z rfl) h9
  | succ k ih =>
    intro m at' c set S hat hm hR
    have inner : ∀ (m : Nat) (c : Nat → Int32), m ≤ 16 → ∃ g, (∀ t, t < at' → g t = c t) ∧ (∀ l, gch M inn m (k + 1) S = some l → ∀ t r, l[t]? = some r → g (at' + t) = nI r) ∧ ∀ (v1 : Int32) (G : pG) (X : pX), gm_cl gm_mX7_choose gm_tyf none (gm_Sp gm_MT (d + 1 + k)) G X → X (.inl (some (.int (gB (gch M inn m (k + 1) S).isSome)))) (gw (va_up A 35 g) F nw nx LO DO) 0 0 → G 43 [some (.ref 24), some (.int v1), some (.int (nI at')), some (.int (nI (at' + (k + 1)))), some (.int set), some (.int inn), some (.int (nI (16 - m)))] [] (gw (va_up A 35 c) F nw nx LO DO) 0 0 := by
      intro m
      induction m with
      | zero =>
        intro c hm
        refine ⟨c, fun _ _ => rfl, fun l hl => (by cases hl), fun v1 G X hC hX => ?_⟩
        have hX : X (.inl (some (.int 0))) (gw (va_up A 35 c) F nw nx LO DO) 0 0 := hX
        refine gm_run1 hC [43] 200 43 ?_
        exact gx_t (show (16 : Int32) ≤ nI (16 - 0) from by decide) (gx_z hX (Or.inl rfl) rfl rfl)
      | succ m ihm =>
        intro c hm
        have er : 16 - (m + 1) = 15 - m := by omega
        have er2 : 16 - m = 15 - m + 1 := by omega
        rw [er]
        have n1 : ¬ (16 : Int32) ≤ nI (15 - m) := nI_ge (b := 16) (by omega) (by decide)
        have ka := nI_clamp (n := at') (by omega)
        by_cases ci : iB inn (15 - m) = true
        · have ci' : ¬ (inn >>> (nI (15 - m) &&& 31)) &&& 1 = 0 := fun z => (i_bit (by omega) inn).mp z ci
          obtain ⟨g1, a1, a2, a3⟩ := ih m (at' + 1) (upd c at' (nI (15 - m))) _ _ (by omega) (by omega) (h2 set S (15 - m) (by omega) hR ci)
          rw [er2, ← nI_1 (15 - m), ← nI_1 at', show at' + 1 + k = at' + (k + 1) by omega] at a3
          cases hq : gch M inn m k (iX S (M (15 - m))) with
          | some l2 =>
            rw [hq] at a3
            rw [gch_s2 ci hq]
            refine ⟨g1, fun t ht => ?_, fun l hl t r ht => ?_, fun v1 G X hC hX => ?_⟩
            · rw [a1 t (by omega), upd_lt ht]
            · cases hl
              cases t with
              | zero =>
                rw [List.getElem?_cons_zero] at ht
                cases ht
                rw [Nat.add_zero, a1 at' (by omega), upd_at]
              | succ t =>
                rw [List.getElem?_cons_succ] at ht
                rw [show at' + (t + 1) = at' + 1 + t by omega]
                exact a2 l2 hq t r ht
            · have hX : X (.inl (some (.int 1))) (gw (va_up A 35 g1) F nw nx LO DO) 0 0 := hX
              rw [← ka] at a3
              refine gm_run1 hC [43] 200 43 ?_
              refine gx_f n1 (gx_t ci' (And.intro (nI_in (by omega) (by decide)) ?_))
              rw [ka] at a3 ⊢
              exact Or.inl ⟨_, _, _, _, a3, gx_f (show ¬ (1 : Int32) = 0 from by decide) (gx_z hX (Or.inr rfl) rfl rfl)⟩
          | none =>
            rw [hq] at a3
            rw [gch_s3 ci hq]
            obtain ⟨g2, b1, b2, b3⟩ := ihm g1 (by omega)
            refine ⟨g2, fun t ht => ?_, b2, fun v1 G X hC hX => ?_⟩
            · rw [b1 t ht, a1 t (by omega), upd_lt ht]
            · have h9 := b3 v1 G X hC hX
              rw [er2, ← nI_1 (15 - m)] at h9
              refine gm_run1 hC [43] 200 43 ?_
              refine gx_f n1 (gx_t ci' (And.intro (nI_in (by omega) (by decide)) ?_))
              rw [ka]
              exact Or.inl ⟨_, _, _, _, a3, gx_t (show (0 : Int32) = 0 from rfl) h9⟩
        · have ci' : (inn >>> (nI (15 - m) &&& 31)) &&& 1 = 0 := (i_bit (by omega) inn).mpr ci
          rw [gch_s1 ci]
          obtain ⟨g2, b1, b2, b3⟩ := ihm c (by omega)
          refine ⟨g2, b1, b2, fun v1 G X hC hX => ?_⟩
          have h9 := b3 v1 G X hC hX
          rw [er2, ← nI_1 (15 - m)] at h9
          refine gm_run1 hC [43] 200 43 ?_
          exact gx_f n1 (gx_f (show ¬ ¬ (inn >>> (nI (15 - m) &&& 31)) &&& 1 = 0 from fun z => z ci') h9)
    obtain ⟨g, a1, a2, a3⟩ := inner m c hm
    refine ⟨g, a1, a2, gm_mk gm_mX7_choose rfl ⟨Or.inr rfl, rfl, rfl, trivial⟩ (fun G X hC hX => ?_)⟩
    have hC : gm_cl gm_mX7_choose gm_tyf none (gm_Sp gm_MT (d + 1 + k)) G X := hC
    have h9 := a3 (nI (16 - m)) G X hC hX
    have hne : ¬ nI at' = nI (at' + (k + 1)) := fun z => by
      have := (nI_eq (by omega) (by omega)).mp z
      omega
    refine gm_runs hC [43] 200 _ _ _ _ _ _ ?_
    exact gx_t hne h9
end X