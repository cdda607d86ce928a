/-! RULES: which rule a text takes at a place -/
/-- the rule of a complement of a term that begins so -/
def tC (k : Int32) : Int32 := if k = 48 then 101 else if k = 49 then 118 else if k = 67 then 110 else if k = 73 then 105 else if k = 85 then 117 else 32
/-- the rule of a pair whose first part begins at p -/
def tPair (l : List Int32) (p : Nat) (z o : Int32) : Int32 :=
  if l.getD p 32 = 48 ∨ l.getD (tE l p) 32 = 48 then z
  else if l.getD p 32 = 49 ∨ l.getD (tE l p) 32 = 49 then o
  else if tS l p = tS l (tE l p) then 112
  else if (l.getD p 32 = 67 ∧ tS l (p + 1) = tS l (tE l p)) ∨ (l.getD (tE l p) 32 = 67 ∧ tS l (tE l p + 1) = tS l p) then 99
  else 32
def tRule (l : List Int32) (i : Nat) : Int32 :=
  if l.getD i 32 = 67 then tC (l.getD (i + 1) 32)
  else if l.getD i 32 = 68 then 100
  else if l.getD i 32 = 73 then tPair l (i + 1) 122 111
  else if l.getD i 32 = 83 then 115
  else if l.getD i 32 = 85 then tPair l (i + 1) 121 116
  else 32
theorem tC_ch (k : Int32) : 0 ≤ tC k ∧ tC k ≤ 65535 := by
  unfold tC
  repeat' split
  all_goals decide
theorem tPair_ch (l : List Int32) (p : Nat) {z o : Int32} (hz : 0 ≤ z ∧ z ≤ 65535) (ho : 0 ≤ o ∧ o ≤ 65535) : 0 ≤ tPair l p z o ∧ tPair l p z o ≤ 65535 := by
  unfold tPair
  split
  · exact hz
  · split
    · exact ho
    · split
      · decide
      · split <;> decide
theorem tRule_ch (l : List Int32) (i : Nat) : 0 ≤ tRule l i ∧ tRule l i ≤ 65535 := by
  unfold tRule
  split
  · exact tC_ch _
  · split
    · decide
    · split
      · exact tPair_ch _ _ (by decide) (by decide)
      · split
        · decide
        · split
          · exact tPair_ch _ _ (by decide) (by decide)
          · decide
theorem gBd0 {p : Prop} [Decidable p] : gB (decide p) = 0 ↔ ¬ p := by rw [gB_eq0]; exact decide_eq_false_iff_not
theorem gBdn {p : Prop} [Decidable p] (h : ¬ gB (decide p) = 0) : p := Decidable.byContradiction (fun z => h (gBd0.mpr z))
section X
variable {nw nx : Nat} {LO : Nat → Int64} {DO : Nat → UInt64} {d : Nat} {A : Nat → Nat → Int32} {F : Nat → Int32} {l : List Int32} {r e fl fc : Nat}
theorem s_ruleOfComplement (k : Int32) : gm_Sp gm_MT (d + 1) 2007 [.int k] (gw A F nw nx LO DO) (.inl (some (.int (tC k)))) (gw A F nw nx LO DO) 0 0 := by
  refine gm_mk gm_mX1_ruleOfComplement rfl ⟨Or.inr rfl, rfl, rfl, trivial⟩ (fun G X hC hX => ?_)
  have hch := tC_ch k
  refine gm_runs hC [] 200 _ _ _ _ _ _ ?_
  exact And.intro (fun (c48 : k = 48) => gx_c hX hch (by subst c48; rfl) rfl) (fun (c48 : ¬ k = 48) => And.intro (fun (c49 : k = 49) => gx_c hX hch (by subst c49; rfl) rfl) (fun (c49 : ¬ k = 49) => And.intro (fun (c67 : k = 67) => gx_c hX hch (by subst c67; rfl) rfl) (fun (c67 : ¬ k = 67) => And.intro (fun (c73 : k = 73) => gx_c hX hch (by subst c73; rfl) rfl) (fun (c73 : ¬ k = 73) => And.intro (fun (c85 : k = 85) => gx_c hX hch (by subst c85; rfl) rfl) (fun (c85 : ¬ k = 85) => gx_c hX hch (by unfold tC; rw [if_neg c48, if_neg c49, if_neg c67, if_neg c73, if_neg c85]; rfl) rfl)))))
theorem s_ruleOfPair (hx : gX nw r e fl fc) (hF : F fl = nI l.length) (hl : l.length ≤ 81) (hr : gR (A r) l) (hc : gCh l) (he : gEn (A e) l) (hv : tV l) {p : Nat} (hp : p < l.length) (hq : tE l p < l.length) {z o : Int32} (hz : 0 ≤ z ∧ z ≤ 65535) (ho : 0 ≤ o ∧ o ≤ 65535) : gm_Sp gm_MT (d + 4) 2008 [.ref 7, .int (nI p), .int z, .int o] (gw A F nw nx LO DO) (.inl (some (.int (tPair l p z o)))) (gw A F nw nx LO DO) 0 0 := by
  refine gm_mk gm_mX1_ruleOfPair rfl ⟨Or.inr rfl, rfl, rfl, trivial⟩ (fun G X hC hX => ?_)
  have hE := s_end (nw := nw) (nx := nx) (LO := LO) (DO := DO) (d := d + 2) hx hF hl he hp
  have hap := s_atN (nw := nw) (nx := nx) (LO := LO) (DO := DO) (d := d + 2) hx hF hl hr hc hp
  have haq := s_atN (nw := nw) (nx := nx) (LO := LO) (DO := DO) (d := d + 2) hx hF hl hr hc hq
  have hs := s_isSame (nw := nw) (nx := nx) (LO := LO) (DO := DO) (d := d + 1) hx hF hl hr hc he hp hq
  have e1 : l.getD p 32 = 67 → p + 1 < l.length := fun c => ((tE_step hv hp).2.1 (by rw [c]; rfl)).1
  have e2 : l.getD (tE l p) 32 = 67 → tE l p + 1 < l.length := fun c => ((tE_step hv hq).2.1 (by rw [c]; rfl)).1
  have hk1 := fun c => s_isSame (nw := nw) (nx := nx) (LO := LO) (DO := DO) (d := d + 1) hx hF hl hr hc he (e1 c) hq
  have hk2 := fun c => s_isSame (nw := nw) (nx := nx) (LO := LO) (DO := DO) (d := d + 1) hx hF hl hr hc he (e2 c) hp
  rw [← nI_1] at hk1 hk2
  generalize hkp : l.getD p 32 = kp at hap hk1 e1
  generalize hkq : l.getD (tE l p) 32 = kq at haq hk2 e2
  unfold tPair at hX
  rw [hkp, hkq] at hX
  have h1 : (kp = 48 ∨ kq = 48) → X (.inl (some (.int z))) (gw A F nw nx LO DO) 0 0 := fun c => by rw [if_pos c] at hX; exact hX
  have h2 : ¬ (kp = 48 ∨ kq = 48) → (kp = 49 ∨ kq = 49) → X (.inl (some (.int o))) (gw A F nw nx LO DO) 0 0 := fun c1 c => by rw [if_neg c1, if_pos c] at hX; exact hX
  have h3 : ¬ (kp = 48 ∨ kq = 48) → ¬ (kp = 49 ∨ kq = 49) → tS l p = tS l (tE l p) → X (.inl (some (.int 112))) (gw A F nw nx LO DO) 0 0 := fun c1 c2 c => by rw [if_neg c1, if_neg c2, if_pos c] at hX; exact hX
  have h4 : ¬ (kp = 48 ∨ kq = 48) → ¬ (kp = 49 ∨ kq = 49) → ¬ tS l p = tS l (tE l p) → ((kp = 67 ∧ tS l (p + 1) = tS l (tE l p)) ∨ (kq = 67 ∧ tS l (tE l p + 1) = tS l p)) → X (.inl (some (.int 99))) (gw A F nw nx LO DO) 0 0 := fun c1 c2 c3 c => by rw [if_neg c1, if_neg c2, if_neg c3, if_pos c] at hX; exact hX
  have h5 : ¬ (kp = 48 ∨ kq = 48) → ¬ (kp = 49 ∨ kq = 49) → ¬ tS l p = tS l (tE l p) → ¬ ((kp = 67 ∧ tS l (p + 1) = tS l (tE l p)) ∨ (kq = 67 ∧ tS l (tE l p + 1) = tS l p)) → X (.inl (some (.int 32))) (gw A F nw nx LO DO) 0 0 := fun c1 c2 c3 c => by rw [if_neg c1, if_neg c2, if_neg c3, if_neg c] at hX; exact hX
  clear hX
  have d1 : (0 : Int32) ≤ 112 ∧ (112 : Int32) ≤ 65535 := by decide
  have d2 : (0 : Int32) ≤ 99 ∧ (99 : Int32) ≤ 65535 := by decide
  have d3 : (0 : Int32) ≤ 32 ∧ (32 : Int32) ≤ 65535 := by decide
  have nor : ∀ {a b : Prop}, ¬ a → ¬ b → ¬ (a ∨ b) := fun ha hb z => z.elim ha hb
  have h153 : ∀ v1 v2 : Int32, ((v1 = 1 ∧ kp = 67 ∧ tS l (p + 1) = tS l (tE l p)) ∨ (v1 = 0 ∧ ¬ (kp = 67 ∧ tS l (p + 1) = tS l (tE l p)))) → ((v2 = 1 ∧ kq = 67 ∧ tS l (tE l p + 1) = tS l p) ∨ (v2 = 0 ∧ ¬ (kq = 67 ∧ tS l (tE l p + 1) = tS l p))) → ¬ (kp = 48 ∨ kq = 48) → ¬ (kp = 49 ∨ kq = 49) → ¬ tS l p = tS l (tE l p) → G 153 [some (.ref 7), some (.int (nI p)), some (.int z), some (.int o), some (.int (nI (tE l p))), some (.int v1), none] [.int v2] (gw A F nw nx LO DO) 0 0 := by
    intro v1 v2 c1 c2 m1 m2 m3
    refine gm_run1 hC [117, 153] 200 153 ?_
    rcases c1 with ⟨rfl, c1⟩ | ⟨rfl, c1⟩
    · exact gx_t (show ¬ (1 : Int32) = 0 from by decide) (gx_c (h4 m1 m2 m3 (Or.inl c1)) d2 rfl rfl)
    · rcases c2 with ⟨rfl, c2⟩ | ⟨rfl, c2⟩
      · exact gx_f (show ¬ ¬ (0 : Int32) = 0 from fun y => y rfl) (gx_f (show ¬ (1 : Int32) = 0 from by decide) (gx_c (h4 m1 m2 m3 (Or.inr c2)) d2 rfl rfl))
      · exact gx_f (show ¬ ¬ (0 : Int32) = 0 from fun y => y rfl) (gx_t (show (0 : Int32) = 0 from rfl) (gx_c (h5 m1 m2 m3 (nor c1 c2)) d3 rfl rfl))
  have h117 : ∀ v1 : Int32, ((v1 = 1 ∧ kp = 67 ∧ tS l (p + 1) = tS l (tE l p)) ∨ (v1 = 0 ∧ ¬ (kp = 67 ∧ tS l (p + 1) = tS l (tE l p)))) → ¬ (kp = 48 ∨ kq = 48) → ¬ (kp = 49 ∨ kq = 49) → ¬ tS l p = tS l (tE l p) → G 117 [some (.ref 7), some (.int (nI p)), some (.int z), some (.int o), some (.int (nI (tE l p))), none, none] [.int v1] (gw A F nw nx LO DO) 0 0 := by
    intro v1 c1 m1 m2 m3
    have k := fun v2 c2 => h153 v1 v2 c1 c2 m1 m2 m3
    clear h153 h1 h2 h3 h4 h5
    rcases hx with ⟨rfl, rfl, rfl, rfl, rfl⟩ | ⟨rfl, rfl, rfl, rfl, rfl⟩
    all_goals
      refine gm_run1 hC [117, 153] 200 117 ?_
      exact Or.inl ⟨_, _, _, _, haq, And.intro (fun (c : ¬ kq = 67) => k 0 (Or.inr ⟨rfl, fun y => c y.1⟩)) (fun (c : ¬ ¬ kq = 67) => Or.inl ⟨_, _, _, _, hk2 (Decidable.of_not_not c), And.intro (fun (e : gB (decide (tS l (tE l p + 1) = tS l p)) = 0) => k 0 (Or.inr ⟨rfl, fun y => gBd0.mp e y.2⟩)) (fun (e : ¬ gB (decide (tS l (tE l p + 1) = tS l p)) = 0) => k 1 (Or.inl ⟨rfl, Decidable.of_not_not c, gBdn e⟩))⟩)⟩
  clear h153 h4 h5
  rcases hx with ⟨rfl, rfl, rfl, rfl, rfl⟩ | ⟨rfl, rfl, rfl, rfl, rfl⟩
  all_goals
    refine gm_runs hC [117, 153] 200 _ _ _ _ _ _ ?_
    refine Or.inl ⟨_, _, _, _, hE, Or.inl ⟨_, _, _, _, hap, And.intro (fun (c : kp = 48) => gx_c (h1 (Or.inl c)) hz rfl rfl) (fun (c1 : ¬ kp = 48) => Or.inl ⟨_, _, _, _, haq, And.intro (fun (c2 : ¬ kq = 48) => ?_) (fun (c : ¬ ¬ kq = 48) => gx_c (h1 (Or.inr (Decidable.of_not_not c))) hz rfl rfl)⟩)⟩⟩
    have m1 := nor c1 c2
    refine Or.inl ⟨_, _, _, _, hap, And.intro (fun (c : kp = 49) => gx_c (h2 m1 (Or.inl c)) ho rfl rfl) (fun (c3 : ¬ kp = 49) => Or.inl ⟨_, _, _, _, haq, And.intro (fun (c4 : ¬ kq = 49) => ?_) (fun (c : ¬ ¬ kq = 49) => gx_c (h2 m1 (Or.inr (Decidable.of_not_not c))) ho rfl rfl)⟩)⟩
    have m2 := nor c3 c4
    refine Or.inl ⟨_, _, _, _, hs, And.intro (fun (c : gB (decide (tS l p = tS l (tE l p))) = 0) => ?_) (fun (c : ¬ gB (decide (tS l p = tS l (tE l p))) = 0) => gx_c (h3 m1 m2 (gBdn c)) d1 rfl rfl)⟩
    have m3 := gBd0.mp c
    refine Or.inl ⟨_, _, _, _, hap, And.intro (fun (c : ¬ kp = 67) => h117 0 (Or.inr ⟨rfl, fun y => c y.1⟩) m1 m2 m3) (fun (c : ¬ ¬ kp = 67) => Or.inl ⟨_, _, _, _, hk1 (Decidable.of_not_not c), And.intro (fun (e : gB (decide (tS l (p + 1) = tS l (tE l p))) = 0) => h117 0 (Or.inr ⟨rfl, fun y => gBd0.mp e y.2⟩) m1 m2 m3) (fun (e : ¬ gB (decide (tS l (p + 1) = tS l (tE l p))) = 0) => h117 1 (Or.inl ⟨rfl, Decidable.of_not_not c, gBdn e⟩) m1 m2 m3)⟩)⟩
theorem s_ruleAt (hx : gX nw r e fl fc) (hF : F fl = nI l.length) (hl : l.length ≤ 81) (hr : gR (A r) l) (hc : gCh l) (he : gEn (A e) l) (hv : tV l) {i : Nat} (hi : i < l.length) : gm_Sp gm_MT (d + 5) 2006 [.ref 7, .int (nI i)] (gw A F nw nx LO DO) (.inl (some (.int (tRule l i)))) (gw A F nw nx LO DO) 0 0 := by
  refine gm_mk gm_mX1_ruleAt rfl ⟨Or.inr rfl, rfl, rfl, trivial⟩ (fun G X hC hX => ?_)
  have ha := s_atN (nw := nw) (nx := nx) (LO := LO) (DO := DO) (d := d + 3) hx hF hl hr hc hi
  obtain ⟨t0, t1, t2⟩ := tE_step hv hi
  have hch := tRule_ch l i
  have e67 : l.getD i 32 = 67 → i + 1 < l.length := fun c => (t1 (by rw [c]; rfl)).1
  have e2 : l.getD i 32 = 73 ∨ l.getD i 32 = 85 → i + 1 < l.length ∧ tE l (i + 1) < l.length := fun c => by
    have := t2 (by rcases c with c | c <;> rw [c] <;> rfl)
    exact ⟨this.1, this.2.1⟩
  have ha1 := fun c => s_atN (nw := nw) (nx := nx) (LO := LO) (DO := DO) (d := d + 3) hx hF hl hr hc (e67 c)
  have hpa := fun c => s_ruleOfPair (nw := nw) (nx := nx) (LO := LO) (DO := DO) (d := d) hx hF hl hr hc he hv (e2 c).1 (e2 c).2 (z := 122) (o := 111) (by decide) (by decide)
  have hpb := fun c => s_ruleOfPair (nw := nw) (nx := nx) (LO := LO) (DO := DO) (d := d) hx hF hl hr hc he hv (e2 c).1 (e2 c).2 (z := 121) (o := 116) (by decide) (by decide)
  rw [← nI_1] at ha1 hpa hpb
  have hC67 := s_ruleOfComplement (A := A) (F := F) (nw := nw) (nx := nx) (LO := LO) (DO := DO) (d := d + 3) (l.getD (i + 1) 32)
  generalize hk : l.getD i 32 = k at ha e67 e2 ha1 hpa hpb
  unfold tRule at hX hch
  rw [hk] at hX hch
  clear t0 t1 t2 e67 e2
  rcases hx with ⟨rfl, rfl, rfl, rfl, rfl⟩ | ⟨rfl, rfl, rfl, rfl, rfl⟩
  all_goals
    refine gm_runs hC [] 200 _ _ _ _ _ _ ?_
    refine Or.inl ⟨_, _, _, _, ha, And.intro (fun (c : k = 67) => ?_) (fun (c67 : ¬ k = 67) => And.intro (fun (c : k = 68) => ?_) (fun (c68 : ¬ k = 68) => And.intro (fun (c : k = 73) => ?_) (fun (c73 : ¬ k = 73) => And.intro (fun (c : k = 83) => ?_) (fun (c83 : ¬ k = 83) => And.intro (fun (c : k = 85) => ?_) (fun (c85 : ¬ k = 85) => ?_)))))⟩
    · rw [if_pos c] at hX hch
      exact Or.inl ⟨_, _, _, _, ha1 c, Or.inl ⟨_, _, _, _, hC67, gx_c hX hch rfl rfl⟩⟩
    · rw [if_neg c67, if_pos c] at hX hch
      exact gx_c hX hch rfl rfl
    · rw [if_neg c67, if_neg c68, if_pos c] at hX hch
      exact Or.inl ⟨_, _, _, _, hpa (Or.inl c), gx_c hX hch rfl rfl⟩
    · rw [if_neg c67, if_neg c68, if_neg c73, if_pos c] at hX hch
      exact gx_c hX hch rfl rfl
    · rw [if_neg c67, if_neg c68, if_neg c73, if_neg c83, if_pos c] at hX hch
      exact Or.inl ⟨_, _, _, _, hpb (Or.inr c), gx_c hX hch rfl rfl⟩
    · rw [if_neg c67, if_neg c68, if_neg c73, if_neg c83, if_neg c85] at hX hch
      exact gx_c hX hch rfl rfl
end X