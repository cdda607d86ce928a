/-! RULES of the reference; the first place where one is found, on both sides -/
def tFrom (l : List Int32) : Nat → Nat → Option Nat
  | 0, _ => none
  | m + 1, i => if tRule l i = 32 then tFrom l m (i + 1) else some i
/-- the first place where a rule can be taken -/
def tPlace (l : List Int32) : Option Nat := tFrom l l.length 0
theorem tFrom_some {l : List Int32} : ∀ {m i j : Nat}, tFrom l m i = some j → i ≤ j ∧ j < i + m ∧ ¬ tRule l j = 32
  | 0, _, _, h => by simp [tFrom] at h
  | m + 1, i, j, h => by
    unfold tFrom at h
    split at h
    · obtain ⟨h1, h2, h3⟩ := tFrom_some h
      exact ⟨by omega, by omega, h3⟩
    · rename_i c
      cases h
      exact ⟨Nat.le_refl _, by omega, c⟩
theorem tPlace_lt {l : List Int32} {j : Nat} (h : tPlace l = some j) : j < l.length ∧ ¬ tRule l j = 32 := by
  obtain ⟨-, h2, h3⟩ := tFrom_some h
  exact ⟨by omega, h3⟩
section X
variable {nw nx : Nat} {LO : Nat → Int64} {DO : Nat → UInt64} {d : Nat} {A : Nat → Nat → Int32} {F : Nat → Int32} {l : List Int32}
theorem s_ruleAt7 (hr : gR (A 33) l) (hl : l.length ≤ 160) (hv : tV l) {i : Nat} (hi : i < l.length) : gm_Sp gm_MT (d + 4) 8030 [.ref 24, .int (nI i)] (gw A F nw nx LO DO) (.inl (some (.int (tRule l i)))) (gw A F nw nx LO DO) 0 0 := by
  refine gm_mk gm_mX7_ruleAt rfl ⟨Or.inr rfl, rfl, rfl, trivial⟩ (fun G X hC hX => ?_)
  have ha := s_textAt (A := A) hr hl hi
  obtain ⟨t0, t1, t2⟩ := tE_step hv hi
  have e67 : l.getD i 32 = 67 → i + 1 < l.length := fun c => (t1 (by rw [c]; rfl)).1
  have e2 : l.getD i 32 = 73 ∨ l.getD i 32 = 85 → i + 1 < l.length ∧ tE l (i + 1) < l.length := fun c => by
    have := t2 (by rcases c with c | c <;> rw [c] <;> rfl)
    exact ⟨this.1, this.2.1⟩
  clear t0 t1 t2
  generalize hk : l.getD i 32 = k at ha e67 e2
  unfold tRule at hX
  rw [hk] at hX
  have w121 : k = 73 ∨ k = 85 → G 121 [some (.ref 24), some (.int (nI i)), some (.int k), some (.int (nI (i + 1))), none, none, none] [] (gw A F nw nx LO DO) 0 0 := by
    intro hkk
    obtain ⟨hp, hq⟩ := e2 hkk
    have hE := s_behind (A := A) (F := F) (nw := nw) (nx := nx) (LO := LO) (DO := DO) (d := d + 1) hr hl hv hp
    have hs := s_isSame7 (A := A) (F := F) (nw := nw) (nx := nx) (LO := LO) (DO := DO) (d := d) hr hl hv hp hq
    obtain ⟨vp, ep⟩ := s_textAt (A := A) hr hl hp
    obtain ⟨vq, eq⟩ := s_textAt (A := A) hr hl hq
    have hk1 : l.getD (i + 1) 32 = 67 → _ := fun c => s_isSame7 (A := A) (F := F) (nw := nw) (nx := nx) (LO := LO) (DO := DO) (d := d) hr hl hv (i := i + 1 + 1) (j := tE l (i + 1)) ((tE_step hv hp).2.1 (by rw [c]; rfl)).1 hq
    have hk2 : l.getD (tE l (i + 1)) 32 = 67 → _ := fun c => s_isSame7 (A := A) (F := F) (nw := nw) (nx := nx) (LO := LO) (DO := DO) (d := d) hr hl hv (i := i + 1) (j := tE l (i + 1) + 1) hp ((tE_step hv hq).2.1 (by rw [c]; rfl)).1
    rw [← nI_1 (i + 1)] at hk1
    rw [← nI_1 (tE l (i + 1))] at hk2
    obtain ⟨z, o, hz1, hz2, hXX⟩ : ∃ z o : Int32, (¬ k = 73 → z = 121 ∧ o = 116) ∧ (k = 73 → z = 122 ∧ o = 111) ∧ X (.inl (some (.int (tPair l (i + 1) z o)))) (gw A F nw nx LO DO) 0 0 := by
      rcases hkk with c | c
      · refine ⟨122, 111, fun h => absurd c h, fun _ => ⟨rfl, rfl⟩, ?_⟩
        rw [if_neg (by rw [c]; decide), if_neg (by rw [c]; decide), if_pos c] at hX
        exact hX
      · refine ⟨121, 116, fun _ => ⟨rfl, rfl⟩, fun h => absurd (c.symm.trans h) (by decide), ?_⟩
        rw [if_neg (by rw [c]; decide), if_neg (by rw [c]; decide), if_neg (by rw [c]; decide), if_neg (by rw [c]; decide), if_pos c] at hX
        exact hX
    clear hX
    generalize hkp : l.getD (i + 1) 32 = kp at ep hk1
    generalize hkq : l.getD (tE l (i + 1)) 32 = kq at eq hk2
    unfold tPair at hXX
    rw [hkp, hkq] at hXX
    have h1 : (kp = 48 ∨ kq = 48) → X (.inl (some (.int z))) (gw A F nw nx LO DO) 0 0 := fun c => by rw [if_pos c] at hXX; exact hXX
    have h2 : ¬ (kp = 48 ∨ kq = 48) → (kp = 49 ∨ kq = 49) → X (.inl (some (.int o))) (gw A F nw nx LO DO) 0 0 := fun c1 c => by rw [if_neg c1, if_pos c] at hXX; exact hXX
    have h3 : ¬ (kp = 48 ∨ kq = 48) → ¬ (kp = 49 ∨ kq = 49) → tS l (i + 1) = tS l (tE l (i + 1)) → X (.inl (some (.int 112))) (gw A F nw nx LO DO) 0 0 := fun c1 c2 c => by rw [if_neg c1, if_neg c2, if_pos c] at hXX; exact hXX
    have h4 : ¬ (kp = 48 ∨ kq = 48) → ¬ (kp = 49 ∨ kq = 49) → ¬ tS l (i + 1) = tS l (tE l (i + 1)) → ((kp = 67 ∧ tS l (i + 1 + 1) = tS l (tE l (i + 1))) ∨ (kq = 67 ∧ tS l (tE l (i + 1) + 1) = tS l (i + 1))) → X (.inl (some (.int 99))) (gw A F nw nx LO DO) 0 0 := fun c1 c2 c3 c => by rw [if_neg c1, if_neg c2, if_neg c3, if_pos c] at hXX; exact hXX
    have h5 : ¬ (kp = 48 ∨ kq = 48) → ¬ (kp = 49 ∨ kq = 49) → ¬ tS l (i + 1) = tS l (tE l (i + 1)) → ¬ ((kp = 67 ∧ tS l (i + 1 + 1) = tS l (tE l (i + 1))) ∨ (kq = 67 ∧ tS l (tE l (i + 1) + 1) = tS l (i + 1))) → X (.inl (some (.int 32))) (gw A F nw nx LO DO) 0 0 := fun c1 c2 c3 c => by rw [if_neg c1, if_neg c2, if_neg c3, if_neg c] at hXX; exact hXX
    clear hXX
    have nor : ∀ {a b : Prop}, ¬ a → ¬ b → ¬ (a ∨ b) := fun ha hb z => z.elim ha hb
    generalize hqq : tE l (i + 1) = q at hE hs vq eq hk1 hk2 h3 h4 h5
    have w262 : ¬ (kp = 48 ∨ kq = 48) → ¬ (kp = 49 ∨ kq = 49) → ¬ tS l (i + 1) = tS l q → ¬ (kp = 67 ∧ tS l (i + 1 + 1) = tS l q) → G 262 [some (.ref 24), some (.int (nI i)), some (.int k), some (.int (nI (i + 1))), some (.int (nI q)), some (.int (gB (decide (kp = 48 ∨ kq = 48)))), some (.int (gB (decide (kp = 49 ∨ kq = 49))))] [] (gw A F nw nx LO DO) 0 0 := by
      intro m1 m2 m3 m4
      refine gm_run1 hC [188, 158, 262] 200 262 ?_
      refine And.intro vq (And.intro (fun (c : ¬ A 33 (nI q).toNatClampNeg = 67) => gx_i (h5 m1 m2 m3 (nor m4 (fun z => c (eq.trans z.1)))) rfl rfl) (fun (c : ¬ ¬ A 33 (nI q).toNatClampNeg = 67) => ?_))
      have c67 : kq = 67 := eq.symm.trans (Decidable.of_not_not c)
      exact Or.inl ⟨_, _, _, _, hk2 c67, And.intro (fun (c : gB (decide (tS l (i + 1) = tS l (q + 1))) = 0) => gx_i (h5 m1 m2 m3 (nor m4 (fun z => gBd0.mp c z.2.symm))) rfl rfl) (fun (c : ¬ gB (decide (tS l (i + 1) = tS l (q + 1))) = 0) => gx_i (h4 m1 m2 m3 (Or.inr ⟨c67, (gBdn c).symm⟩)) rfl rfl)⟩
    have w188 : G 188 [some (.ref 24), some (.int (nI i)), some (.int k), some (.int (nI (i + 1))), some (.int (nI q)), some (.int (gB (decide (kp = 48 ∨ kq = 48)))), some (.int (gB (decide (kp = 49 ∨ kq = 49))))] [] (gw A F nw nx LO DO) 0 0 := by
      refine gm_run1 hC [188, 158, 262] 200 188 ?_
      refine And.intro (fun (c : gB (decide (kp = 48 ∨ kq = 48)) = 0) => ?_) (fun (c : ¬ gB (decide (kp = 48 ∨ kq = 48)) = 0) => ?_)
      · have m1 := gBd0.mp c
        refine And.intro (fun (c : gB (decide (kp = 49 ∨ kq = 49)) = 0) => ?_) (fun (c : ¬ gB (decide (kp = 49 ∨ kq = 49)) = 0) => ?_)
        · have m2 := gBd0.mp c
          refine Or.inl ⟨_, _, _, _, hs, And.intro (fun (c : gB (decide (tS l (i + 1) = tS l q)) = 0) => ?_) (fun (c : ¬ gB (decide (tS l (i + 1) = tS l q)) = 0) => gx_i (h3 m1 m2 (gBdn c)) rfl rfl)⟩
          have m3 := gBd0.mp c
          refine And.intro vp (And.intro (fun (c : ¬ A 33 (nI (i + 1)).toNatClampNeg = 67) => w262 m1 m2 m3 (fun z => c (ep.trans z.1))) (fun (c : ¬ ¬ A 33 (nI (i + 1)).toNatClampNeg = 67) => ?_))
          have c67 : kp = 67 := ep.symm.trans (Decidable.of_not_not c)
          exact Or.inl ⟨_, _, _, _, hk1 c67, And.intro (fun (c : ¬ gB (decide (tS l (i + 1 + 1) = tS l q)) = 0) => gx_i (h4 m1 m2 m3 (Or.inl ⟨c67, gBdn c⟩)) rfl rfl) (fun (c : ¬ ¬ gB (decide (tS l (i + 1 + 1) = tS l q)) = 0) => w262 m1 m2 m3 (fun z => gBd0.mp (Decidable.of_not_not c) z.2))⟩
        · have m2 := gBdn c
          exact And.intro (fun (c : ¬ k = 73) => gx_i (h2 m1 m2) (hz1 c).2.symm rfl) (fun (c : ¬ ¬ k = 73) => gx_i (h2 m1 m2) (hz2 (Decidable.of_not_not c)).2.symm rfl)
      · have m1 := gBdn c
        exact And.intro (fun (c : ¬ k = 73) => gx_i (h1 m1) (hz1 c).1.symm rfl) (fun (c : ¬ ¬ k = 73) => gx_i (h1 m1) (hz2 (Decidable.of_not_not c)).1.symm rfl)
    have w158 : G 158 [some (.ref 24), some (.int (nI i)), some (.int k), some (.int (nI (i + 1))), some (.int (nI q)), some (.int (gB (decide (kp = 48 ∨ kq = 48)))), none] [] (gw A F nw nx LO DO) 0 0 := by
      have y1 : (kp = 49 ∨ kq = 49) → _ := fun c => by have := w188; rw [decide_eq_true c] at this; exact this
      have y0 : ¬ (kp = 49 ∨ kq = 49) → _ := fun c => by have := w188; rw [decide_eq_false c] at this; exact this
      refine gm_run1 hC [188, 158, 262] 200 158 ?_
      exact And.intro vp (And.intro (fun (c : A 33 (nI (i + 1)).toNatClampNeg = 49) => y1 (Or.inl (ep.symm.trans c))) (fun (c1 : ¬ A 33 (nI (i + 1)).toNatClampNeg = 49) => And.intro vq (And.intro (fun (c : ¬ A 33 (nI q).toNatClampNeg = 49) => y0 (nor (fun z => c1 (ep.trans z)) (fun z => c (eq.trans z)))) (fun (c : ¬ ¬ A 33 (nI q).toNatClampNeg = 49) => y1 (Or.inr (eq.symm.trans (Decidable.of_not_not c)))))))
    have y1 : (kp = 48 ∨ kq = 48) → _ := fun c => by have := w158; rw [decide_eq_true c] at this; exact this
    have y0 : ¬ (kp = 48 ∨ kq = 48) → _ := fun c => by have := w158; rw [decide_eq_false c] at this; exact this
    refine gm_run1 hC [188, 158, 262] 200 121 ?_
    exact Or.inl ⟨_, _, _, _, hE, And.intro vp (And.intro (fun (c : A 33 (nI (i + 1)).toNatClampNeg = 48) => y1 (Or.inl (ep.symm.trans c))) (fun (c1 : ¬ A 33 (nI (i + 1)).toNatClampNeg = 48) => And.intro vq (And.intro (fun (c : ¬ A 33 (nI q).toNatClampNeg = 48) => y0 (nor (fun z => c1 (ep.trans z)) (fun z => c (eq.trans z)))) (fun (c : ¬ ¬ A 33 (nI q).toNatClampNeg = 48) => y1 (Or.inr (eq.symm.trans (Decidable.of_not_not c)))))))⟩
  have w11 : G 11 [some (.ref 24), some (.int (nI i)), some (.int k), some (.int (nI (i + 1))), none, none, none] [] (gw A F nw nx LO DO) 0 0 := by
    refine gm_run1 hC [11, 121] 200 11 ?_
    refine And.intro (fun (c67 : ¬ k = 67) => ?_) (fun (c : ¬ ¬ k = 67) => ?_)
    · rw [if_neg c67] at hX
      refine And.intro (fun (c68 : ¬ k = 68) => ?_) (fun (c : ¬ ¬ k = 68) => ?_)
      · rw [if_neg c68] at hX
        refine And.intro (fun (c83 : ¬ k = 83) => ?_) (fun (c : ¬ ¬ k = 83) => ?_)
        · refine And.intro (fun (c73 : k = 73) => w121 (Or.inl c73)) (fun (c73 : ¬ k = 73) => And.intro (fun (c85 : k = 85) => w121 (Or.inr c85)) (fun (c85 : ¬ k = 85) => ?_))
          rw [if_neg c73, if_neg c83, if_neg c85] at hX
          exact gx_i hX rfl rfl
        · have c := Decidable.of_not_not c
          rw [if_neg (by rw [c]; decide), if_pos c] at hX
          exact gx_i hX rfl rfl
      · rw [if_pos (Decidable.of_not_not c)] at hX
        exact gx_i hX rfl rfl
    · have c := Decidable.of_not_not c
      obtain ⟨vp, ep⟩ := s_textAt (A := A) hr hl (e67 c)
      rw [if_pos c, ← ep] at hX
      generalize hg : A 33 (nI (i + 1)).toNatClampNeg = g at hX
      have hh : ∀ {v : Int32}, A 33 (nI (i + 1)).toNatClampNeg = v → g = v := fun z => hg.symm.trans z
      have hn : ∀ {v : Int32}, ¬ A 33 (nI (i + 1)).toNatClampNeg = v → ¬ g = v := fun z y => z (hg.trans y)
      refine And.intro vp (And.intro (fun (n67 : ¬ A 33 (nI (i + 1)).toNatClampNeg = 67) => ?_) (fun (c : ¬ ¬ A 33 (nI (i + 1)).toNatClampNeg = 67) => gx_i hX (by rw [hh (Decidable.of_not_not c)]; rfl) rfl))
      refine And.intro (fun (n48 : ¬ A 33 (nI (i + 1)).toNatClampNeg = 48) => ?_) (fun (c : ¬ ¬ A 33 (nI (i + 1)).toNatClampNeg = 48) => gx_i hX (by rw [hh (Decidable.of_not_not c)]; rfl) rfl)
      refine And.intro (fun (n49 : ¬ A 33 (nI (i + 1)).toNatClampNeg = 49) => ?_) (fun (c : ¬ ¬ A 33 (nI (i + 1)).toNatClampNeg = 49) => gx_i hX (by rw [hh (Decidable.of_not_not c)]; rfl) rfl)
      refine And.intro (fun (n85 : ¬ A 33 (nI (i + 1)).toNatClampNeg = 85) => ?_) (fun (c : ¬ ¬ A 33 (nI (i + 1)).toNatClampNeg = 85) => gx_i hX (by rw [hh (Decidable.of_not_not c)]; rfl) rfl)
      exact And.intro (fun (n73 : ¬ A 33 (nI (i + 1)).toNatClampNeg = 73) => gx_i hX (by unfold tC; rw [if_neg (hn n48), if_neg (hn n49), if_neg (hn n67), if_neg (hn n73), if_neg (hn n85)]; rfl) rfl) (fun (c : ¬ ¬ A 33 (nI (i + 1)).toNatClampNeg = 73) => gx_i hX (by rw [hh (Decidable.of_not_not c)]; rfl) rfl)
  rw [← ha.2, ← nI_1] at w11
  refine gm_runs hC [11] 200 _ _ _ _ _ _ ?_
  exact And.intro ha.1 w11
theorem s_place7 (hr : gR (A 33) l) (hl : l.length ≤ 160) (hv : tV l) (hF : F 24 = nI l.length) : gm_Sp gm_MT (d + 5) 8031 [.ref 24] (gw A F nw nx LO DO) (.inl (some (.int (gOI (tPlace l))))) (gw A F nw nx LO DO) 0 0 := by
  refine gm_mk gm_mX7_place rfl ⟨Or.inr rfl, rfl, rfl, trivial⟩ (fun G X hC hX => ?_)
  have loop : ∀ (m i : Nat), i + m = l.length → X (.inl (some (.int (gOI (tFrom l m i))))) (gw A F nw nx LO DO) 0 0 → G 2 [some (.ref 24), some (.int (nI i))] [] (gw A F nw nx LO DO) 0 0 := by
    intro m
    induction m with
    | zero =>
      intro i hi hY
      have hY : X (.inl (some (.int (-1)))) (gw A F nw nx LO DO) 0 0 := hY
      refine gm_run1 hC [2] 200 2 ?_
      exact gx_t (show F 24 ≤ nI i from by rw [hF]; exact nI_le (by omega) (by omega)) (gx_i hY gm_m1 rfl)
    | succ m ih =>
      intro i hi hY
      have hs := s_ruleAt7 (A := A) (F := F) (nw := nw) (nx := nx) (LO := LO) (DO := DO) (d := d) hr hl hv (i := i) (by omega)
      unfold tFrom at hY
      refine gm_run1 hC [2] 200 2 ?_
      refine gx_f (show ¬ F 24 ≤ nI i from by rw [hF]; exact nI_ge (by omega) (by omega)) (Or.inl ⟨_, _, _, _, hs, And.intro (fun (c : tRule l i = 32) => ?_) (fun (c : ¬ tRule l i = 32) => ?_)⟩)
      · rw [if_pos c] at hY
        have h9 := ih (i + 1) (by omega) hY
        rw [← nI_1] at h9
        exact h9
      · rw [if_neg c] at hY
        exact gx_i hY rfl rfl
  refine gm_runs hC [2] 200 _ _ _ _ _ _ ?_
  exact loop l.length 0 (by omega) hX
theorem g_up4 (F : Nat → Int32) (a b c e : Int32) : va_up (va_up (va_up (va_up F 1 a) 2 b) 1 c) 2 e = va_up (va_up F 1 c) 2 e := by
  funext j
  by_cases h1 : j = 2
  · subst h1; simp [va_up]
  · by_cases h2 : j = 1
    · subst h2; simp [va_up]
    · simp [va_up, h1, h2]
theorem g_up3 (F : Nat → Int32) (b c e : Int32) : va_up (va_up (va_up F 2 b) 1 c) 2 e = va_up (va_up F 1 c) 2 e := by
  funext j
  by_cases h1 : j = 2
  · subst h1; simp [va_up]
  · by_cases h2 : j = 1
    · subst h2; simp [va_up]
    · simp [va_up, h1, h2]
/-- what the prover keeps of the first place and its rule -/
def gPl (o : Option Nat) (l : List Int32) (pl ru : Int32) : Prop := match o with
  | some j => pl = nI j ∧ ru = tRule l j
  | none => ru = 32
theorem tFrom_ne {l : List Int32} : ∀ (m i j : Nat), tFrom l m i = some j → ¬ tRule l j = 32 := by
  intro m
  induction m with
  | zero => intro i j h; cases h
  | succ m ih =>
    intro i j h
    unfold tFrom at h
    split at h
    · exact ih _ _ h
    · cases h; assumption
variable {r e fl fc : Nat}
theorem s_seek_end {m i : Nat} {c : Int32} {F : Nat → Int32} (hp : gPl (tFrom l m i) l (F 1) (F 2)) {G : pG} {X : pX} (hC : gm_cl gm_mX1_seek gm_tyf none (gm_Sp gm_MT (d + 5)) G X) (hX : X (.inl (some (.int (gB (tFrom l m i).isSome)))) (gw A F nw nx LO DO) 0 0) : G 55 [some (.ref 7), some (.int c)] [] (gw A F nw nx LO DO) 0 0 := by
  refine gm_run1 hC [15, 55] 200 55 ?_
  cases hi : tFrom l m i with
  | none =>
    rw [hi] at hp hX
    exact gx_t (show F 2 = 32 from hp) (gx_z hX (Or.inl rfl) rfl rfl)
  | some j =>
    rw [hi] at hp hX
    exact gx_f (show ¬ F 2 = 32 from by rw [hp.2]; exact tFrom_ne _ _ _ hi) (gx_z hX (Or.inr rfl) rfl rfl)
theorem s_seek_loop (hx : gX nw r e fl fc) (hl : l.length ≤ 81) (hr : gR (A r) l) (hc : gCh l) (he : gEn (A e) l) (hv : tV l) : ∀ (m i : Nat) (F : Nat → Int32), i + (m + 1) = l.length → F fl = nI l.length → F 2 = 32 →
    ∃ pl ru, gPl (tFrom l (m + 1) i) l pl ru ∧ ∀ (G : pG) (X : pX), gm_cl gm_mX1_seek gm_tyf none (gm_Sp gm_MT (d + 5)) G X → X (.inl (some (.int (gB (tFrom l (m + 1) i).isSome)))) (gw A (va_up (va_up F 1 pl) 2 ru) nw nx LO DO) 0 0 → G 15 [some (.ref 7), some (.int (nI i))] [] (gw A F nw nx LO DO) 0 0 := by
  have hfl : fl ≠ 1 ∧ fl ≠ 2 := by rcases hx with ⟨rfl, rfl, rfl, rfl, rfl⟩ | ⟨rfl, rfl, rfl, rfl, rfl⟩ <;> decide
  intro m
  induction m with
  | zero =>
    intro i F hi hF h2
    have hpp : gPl (tFrom l 1 i) l (nI i) (tRule l i) := by
      unfold tFrom
      split
      · assumption
      · exact ⟨rfl, rfl⟩
    refine ⟨nI i, tRule l i, hpp, fun G X hC hX => ?_⟩
    · have h55 : ∀ c, G 55 [some (.ref 7), some (.int c)] [] (gw A (va_up (va_up F 1 (nI i)) 2 (tRule l i)) nw nx LO DO) 0 0 := fun c => s_seek_end (m := 1) (i := i) (F := va_up (va_up F 1 (nI i)) 2 (tRule l i)) (by rw [g_upe, g_upn (by decide), g_upe]; exact hpp) hC hX
      have hs := s_ruleAt (A := A) (F := va_up F 1 (nI i)) (nw := nw) (nx := nx) (LO := LO) (DO := DO) (d := d) hx (by rw [g_upn hfl.1]; exact hF) hl hr hc he hv (i := i) (by omega)
      have hlen := s_lengthX (A := A) (F := F) (nw := nw) (nx := nx) (LO := LO) (DO := DO) (d := d + 4) hx
      have hlen2 := s_lengthX (A := A) (F := va_up (va_up F 1 (nI i)) 2 (tRule l i)) (nw := nw) (nx := nx) (LO := LO) (DO := DO) (d := d + 4) hx
      rw [hF] at hlen
      rw [g_upn hfl.2, g_upn hfl.1, hF] at hlen2
      have hch := tRule_ch l i
      have n1 : ¬ nI l.length ≤ nI i := nI_ge (by omega) (by omega)
      have n2 : nI l.length ≤ nI i + 1 := by rw [nI_1]; exact nI_le (by omega) (by omega)
      clear hfl
      rcases hx with ⟨rfl, rfl, rfl, rfl, rfl⟩ | ⟨rfl, rfl, rfl, rfl, rfl⟩
      all_goals
        refine gm_run1 hC [15, 55] 200 15 ?_
        refine Or.inl ⟨_, _, _, _, hlen, gx_f n1 (gx_f (show ¬ ¬ F 2 = 32 from fun z => z h2) (Or.inl ⟨_, _, _, _, hs, And.intro hch ?_⟩))⟩
        refine gm_run1 hC [15, 55] 200 15 ?_
        exact Or.inl ⟨_, _, _, _, hlen2, gx_t n2 (h55 _)⟩
  | succ m ih =>
    intro i F hi hF h2
    have hs := s_ruleAt (A := A) (F := va_up F 1 (nI i)) (nw := nw) (nx := nx) (LO := LO) (DO := DO) (d := d) hx (by rw [g_upn hfl.1]; exact hF) hl hr hc he hv (i := i) (by omega)
    have hlen := s_lengthX (A := A) (F := F) (nw := nw) (nx := nx) (LO := LO) (DO := DO) (d := d + 4) hx
    rw [hF] at hlen
    have hch := tRule_ch l i
    have n1 : ¬ nI l.length ≤ nI i := nI_ge (by omega) (by omega)
    by_cases hru : tRule l i = 32
    · obtain ⟨pl, ru, hp, hrun⟩ := ih (i + 1) (va_up (va_up F 1 (nI i)) 2 (tRule l i)) (by omega) (by rw [g_upn hfl.2, g_upn hfl.1, hF]) (by rw [g_upe]; exact hru)
      refine ⟨pl, ru, ?_, fun G X hC hX => ?_⟩
      · unfold tFrom
        rw [if_pos hru]
        exact hp
      · have h9 := hrun G X hC (by rw [g_up4]; have e : tFrom l (m + 1 + 1) i = tFrom l (m + 1) (i + 1) := if_pos hru
                                   rw [e] at hX; exact hX)
        rw [← nI_1] at h9
        clear hfl hrun ih
        rcases hx with ⟨rfl, rfl, rfl, rfl, rfl⟩ | ⟨rfl, rfl, rfl, rfl, rfl⟩
        all_goals
          refine gm_run1 hC [15, 55] 200 15 ?_
          exact Or.inl ⟨_, _, _, _, hlen, gx_f n1 (gx_f (show ¬ ¬ F 2 = 32 from fun z => z h2) (Or.inl ⟨_, _, _, _, hs, And.intro hch h9⟩))⟩
    · have hpp : gPl (tFrom l (m + 1 + 1) i) l (nI i) (tRule l i) := by
        unfold tFrom
        rw [if_neg hru]
        exact ⟨rfl, rfl⟩
      refine ⟨nI i, tRule l i, hpp, fun G X hC hX => ?_⟩
      · have h55 : ∀ c, G 55 [some (.ref 7), some (.int c)] [] (gw A (va_up (va_up F 1 (nI i)) 2 (tRule l i)) nw nx LO DO) 0 0 := fun c => s_seek_end (m := m + 1 + 1) (i := i) (F := va_up (va_up F 1 (nI i)) 2 (tRule l i)) (by rw [g_upe, g_upn (by decide), g_upe]; exact hpp) hC hX
        have hlen2 := s_lengthX (A := A) (F := va_up (va_up F 1 (nI i)) 2 (tRule l i)) (nw := nw) (nx := nx) (LO := LO) (DO := DO) (d := d + 4) hx
        rw [g_upn hfl.2, g_upn hfl.1, hF] at hlen2
        clear hfl ih
        rcases hx with ⟨rfl, rfl, rfl, rfl, rfl⟩ | ⟨rfl, rfl, rfl, rfl, rfl⟩
        all_goals
          refine gm_run1 hC [15, 55] 200 15 ?_
          refine Or.inl ⟨_, _, _, _, hlen, gx_f n1 (gx_f (show ¬ ¬ F 2 = 32 from fun z => z h2) (Or.inl ⟨_, _, _, _, hs, And.intro hch ?_⟩))⟩
          refine gm_run1 hC [15, 55] 200 15 ?_
          exact Or.inl ⟨_, _, _, _, hlen2, And.intro (fun _ => h55 _) (fun _ => gx_t (show ¬ tRule l i = 32 from hru) (h55 _))⟩
theorem s_seek (hx : gX nw r e fl fc) (hF : F fl = nI l.length) (hl : l.length ≤ 81) (h0 : 0 < l.length) (hr : gR (A r) l) (hc : gCh l) (hv : tV l) :
    ∃ f pl ru, gEn f l ∧ gPl (tPlace l) l pl ru ∧ gm_Sp gm_MT (d + 6) 2005 [.ref 7] (gw A F nw nx LO DO) (.inl (some (.int (gB (tPlace l).isSome)))) (gw (va_up A e f) (va_up (va_up F 1 pl) 2 ru) nw nx LO DO) 0 0 := by
  obtain ⟨f, hf, hm⟩ := s_measure (A := A) (F := F) (nw := nw) (nx := nx) (LO := LO) (DO := DO) (d := d + 3) hx hF hl hv hr
  have hne : r ≠ e := by rcases hx with ⟨rfl, rfl, rfl, rfl, rfl⟩ | ⟨rfl, rfl, rfl, rfl, rfl⟩ <;> decide
  have hfl : fl ≠ 2 := by rcases hx with ⟨rfl, rfl, rfl, rfl, rfl⟩ | ⟨rfl, rfl, rfl, rfl, rfl⟩ <;> decide
  obtain ⟨pl, ru, hp, hrun⟩ := s_seek_loop (A := va_up A e f) (nw := nw) (nx := nx) (LO := LO) (DO := DO) (d := d) hx hl (by rw [g_upn hne]; exact hr) hc (by rw [g_upe]; exact hf) hv (l.length - 1) 0 (va_up F 2 32) (by omega) (by rw [g_upn hfl]; exact hF) (by rw [g_upe])
  rw [show l.length - 1 + 1 = l.length by omega] at hp
  refine ⟨f, pl, ru, hf, hp, gm_mk gm_mX1_seek rfl ⟨Or.inr rfl, rfl, rfl, trivial⟩ (fun G X hC hX => ?_)⟩
  have h9 := hrun G X hC (by rw [g_up3, show l.length - 1 + 1 = l.length by omega]; exact hX)
  clear hrun hfl hne
  have d3 : (0 : Int32) ≤ 32 ∧ (32 : Int32) ≤ 65535 := by decide
  rcases hx with ⟨rfl, rfl, rfl, rfl, rfl⟩ | ⟨rfl, rfl, rfl, rfl, rfl⟩
  all_goals
    refine gm_runs hC [15] 200 _ _ _ _ _ _ ?_
    exact Or.inl ⟨_, _, _, _, hm, And.intro d3 h9⟩
end X