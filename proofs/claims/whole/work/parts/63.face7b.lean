/-! THE REFERENCE'S FACE: rules, steps, normal forms -/
/-- rewriting on and on: how many steps, the last text, whether a step was refused -/
def tGo : Nat → List Int32 → Nat × List Int32 × Bool
  | 0, l => (0, l, false)
  | f + 1, l => match tPlace l with
    | none => (0, l, false)
    | some i => if (tRew l i).length ≤ 40 then ((tGo f (tRew l i)).1 + 1, (tGo f (tRew l i)).2) else (0, l, true)
theorem tGo_none {f : Nat} {l : List Int32} (h : tPlace l = none) : tGo (f + 1) l = (0, l, false) := by unfold tGo; rw [h]
theorem tGo_stop {f i : Nat} {l : List Int32} (h : tPlace l = some i) (h2 : ¬ (tRew l i).length ≤ 40) : tGo (f + 1) l = (0, l, true) := by unfold tGo; rw [h]; exact if_neg h2
theorem tGo_step {f i : Nat} {l : List Int32} (h : tPlace l = some i) (h2 : (tRew l i).length ≤ 40) : tGo (f + 1) l = ((tGo f (tRew l i)).1 + 1, (tGo f (tRew l i)).2) := by
  conv => lhs; unfold tGo
  rw [h]
  exact if_pos h2
def rStp (rows : List (Int32 × Int32 × Int32)) (l : List Int32) : Int32 × Option Nat × List (Int32 × Int32 × Int32) := match tPlace l with
  | none => (2, none, rows)
  | some i => if (tRew l i).length ≤ 40 then (if (rAll (tRew l i) rows).1.isSome then 0 else 4, rAll (tRew l i) rows) else (3, none, rows)
def rNf (rows : List (Int32 × Int32 × Int32)) (l : List Int32) : Int32 × Option Nat × List (Int32 × Int32 × Int32) := if (tGo (mQ l + 1) l).2.2 = true then (2, none, rows) else (if (rAll (tGo (mQ l + 1) l).2.1 rows).1.isSome then 0 else 3, rAll (tGo (mQ l + 1) l).2.1 rows)
/-- all but the reference's texts (and terms) and its thrown is as before -/
def gKs (A : Nat → Nat → Int32) (F : Nat → Int32) (A' : Nat → Nat → Int32) (F' : Nat → Int32) : Prop := (∀ j, j ≠ 33 → j ≠ 34 → A' j = A j) ∧ (∀ j, j ≠ 20 → j ≠ 24 → j ≠ 30 → F' j = F j)
def gKb (A : Nat → Nat → Int32) (F : Nat → Int32) (A' : Nat → Nat → Int32) (F' : Nat → Int32) : Prop := (∀ j, j < 25 ∨ (29 < j ∧ j < 33) ∨ 34 < j → A' j = A j) ∧ (∀ j, j ≠ 20 → j ≠ 21 → j ≠ 24 → j ≠ 25 → j ≠ 30 → F' j = F j)
theorem gKs.b {A A' : Nat → Nat → Int32} {F F' : Nat → Int32} (h : gKs A F A' F') : gKb A F A' F' := ⟨fun j a => h.1 j (by omega) (by omega), fun j a _ b _ c => h.2 j a b c⟩
theorem gKl.b {A A' : Nat → Nat → Int32} {F F' : Nat → Int32} (h : gKl A F A' F') : gKb A F A' F' := ⟨fun j a => h.1 j (by omega), fun j a b _ c _ => h.2 j a b c⟩
theorem gKm.s {A A' : Nat → Nat → Int32} {F F' : Nat → Int32} (h : gKm A F A' F') : gKs A F A' F' := ⟨h.1, fun j _ a b => h.2 j a b⟩
theorem gKs.trans {A A1 A2 : Nat → Nat → Int32} {F F1 F2 : Nat → Int32} (h : gKs A F A1 F1) (k : gKs A1 F1 A2 F2) : gKs A F A2 F2 := ⟨fun j a b => (k.1 j a b).trans (h.1 j a b), fun j a b c => (k.2 j a b c).trans (h.2 j a b c)⟩
theorem gKb.trans {A A1 A2 : Nat → Nat → Int32} {F F1 F2 : Nat → Int32} (h : gKb A F A1 F1) (k : gKb A1 F1 A2 F2) : gKb A F A2 F2 := ⟨fun j a => (k.1 j a).trans (h.1 j a), fun j a b c e f => (k.2 j a b c e f).trans (h.2 j a b c e f)⟩
theorem gKs.th (A : Nat → Nat → Int32) (F : Nat → Int32) (x : Int32) : gKs A F A (va_up F 20 x) := ⟨fun _ _ _ => rfl, fun j a _ _ => g_upn a⟩
theorem gMt.th {A : Nat → Nat → Int32} {F : Nat → Int32} {l : List Int32} (h : gMt A F l) (x : Int32) : gMt A (va_up F 20 x) l := ⟨h.1, by rw [g_upn (by decide)]; exact h.2.1, h.2.2⟩
theorem i2c_id {x : Int32} (h : 0 ≤ x ∧ x ≤ 65535) : (x.toUInt32 % 65536).toInt32 = x := by
  obtain ⟨j, hj, rfl⟩ := nI_of2 (x := x) (M := 65535) (n := 65535) (by decide) (i_lt_ge.mpr h.1) h.2
  have e : (nI j).toUInt32 % 65536 = (nI j).toUInt32 := by
    refine UInt32.toNat_inj.mp ?_
    have e2 : (nI j).toUInt32.toNat = j := by
      show (BitVec.ofNat 32 j).toNat = j
      rw [BitVec.toNat_ofNat]
      exact Nat.mod_eq_of_lt (by omega)
    rw [UInt32.toNat_mod, e2]
    exact Nat.mod_eq_of_lt (show j < 65536 by omega)
  rw [e]
  rfl
section X
variable {nw nx : Nat} {LO : Nat → Int64} {DO : Nat → UInt64} {d : Nat} {A : Nat → Nat → Int32} {F : Nat → Int32} {rows : List (Int32 × Int32 × Int32)} {sp : Nat → List Int32}
theorem gRm.spell (hR : gRm A rows sp) {t : Nat} (ht : t < rows.length) : ∃ A' F', gMt A' F' (sp t) ∧ gKm A (va_up F 20 0) A' F' ∧ gm_Sp gm_MT (d + 41) 8022 [.ref 24, .int (nI t)] (gw A (va_up F 20 0) nw nx LO DO) (.inl none) (gw A' F' nw nx LO DO) 0 0 := s_spell hR.1 ht
theorem s_rule7 (hR : gRm A rows sp) (hF : F 21 = nI rows.length) {t : Nat} (ht : t < rows.length) : ∃ A' F', gKs A F A' F' ∧ F' 20 = (match tPlace (sp t) with | none => 2 | some _ => 0) ∧ gm_Sp gm_MT (d + 42) 8037 [.ref 24, .int (nI t)] (gw A F nw nx LO DO) (.inl (some (.int (match tPlace (sp t) with | none => 110 | some i => tRule (sp t) i)))) (gw A' F' nw nx LO DO) 0 0 := by
  have hn := s_noTerm1 (A := A) (nw := nw) (nx := nx) (LO := LO) (DO := DO) (d := d + 39) hR.1.1 hF ht
  obtain ⟨A1, F1, m1, k1, h1⟩ := gRm.spell (nw := nw) (nx := nx) (LO := LO) (DO := DO) (d := d) (F := F) hR ht
  have hp := s_place7 (nw := nw) (nx := nx) (LO := LO) (DO := DO) (d := d + 36) m1.1 (by have := m1.2.2.1; omega) m1.2.2.2.1 m1.2.1
  cases hq : tPlace (sp t) with
  | none =>
    rw [hq] at hp
    refine ⟨A1, va_up F1 20 2, (gKs.th A F 0).trans (k1.s.trans (gKs.th A1 F1 2)), g_upe, gm_mk gm_mX7_rule rfl ⟨Or.inr rfl, rfl, rfl, trivial⟩ (fun G X hC hX => ?_)⟩
    refine gm_runs hC [] 200 _ _ _ _ _ _ ?_
    exact Or.inl ⟨_, _, _, _, hn, gx_t (show (0 : Int32) = 0 from rfl) (Or.inl ⟨_, _, _, _, h1, Or.inl ⟨_, _, _, _, hp, gx_f (show ¬ (0 : Int32) ≤ -1 from by decide) (gx_f (show ¬ (0 : Int32) ≤ -1 from by decide) (gx_c (r := 110) hX (by decide) rfl rfl))⟩⟩)⟩
  | some i =>
    rw [hq] at hp
    obtain ⟨hi, hru⟩ := tPlace_lt hq
    have hl := m1.2.2.1
    have hr := s_ruleAt7 (nw := nw) (nx := nx) (LO := LO) (DO := DO) (d := d + 37) (A := A1) (F := va_up F1 20 0) m1.1 (by omega) m1.2.2.2.1 hi
    have p1 : (0 : Int32) ≤ nI i := nI_pos' (by omega)
    have hch := tRule_ch (sp t) i
    refine ⟨A1, va_up F1 20 0, (gKs.th A F 0).trans (k1.s.trans (gKs.th A1 F1 0)), g_upe, gm_mk gm_mX7_rule rfl ⟨Or.inr rfl, rfl, rfl, trivial⟩ (fun G X hC hX => ?_)⟩
    refine gm_runs hC [] 200 _ _ _ _ _ _ ?_
    exact Or.inl ⟨_, _, _, _, hn, gx_t (show (0 : Int32) = 0 from rfl) (Or.inl ⟨_, _, _, _, h1, Or.inl ⟨_, _, _, _, hp, gx_t p1 (gx_t p1 (Or.inl ⟨_, _, _, _, hr, gx_c hX hch (i2c_id hch) rfl⟩))⟩⟩)⟩
/-- what a call of the reference leaves that may make terms -/
def gMr (A : Nat → Nat → Int32) (F : Nat → Int32) (rows : List (Int32 × Int32 × Int32)) (sp : Nat → List Int32) (r : Int32 × Option Nat × List (Int32 × Int32 × Int32)) (A' : Nat → Nat → Int32) (F' : Nat → Int32) (sp' : Nat → List Int32) : Prop := gRm A' r.2.2 sp' ∧ F' 21 = nI r.2.2.length ∧ (∀ t, t < rows.length → sp' t = sp t) ∧ (∃ more, r.2.2 = rows ++ more) ∧ gKb A F A' F' ∧ F' 20 = r.1
theorem gKm.rm {A' : Nat → Nat → Int32} {F' : Nat → Int32} (k : gKs A F A' F') (hR : gRm A rows sp) (hF : F 21 = nI rows.length) : gRm A' rows sp ∧ F' 21 = nI rows.length := by
  unfold gRm at hR ⊢
  rw [k.1 25 (by decide) (by decide), k.1 26 (by decide) (by decide), k.1 27 (by decide) (by decide), k.1 28 (by decide) (by decide), k.1 29 (by decide) (by decide)]
  exact ⟨hR, by rw [k.2 21 (by decide) (by decide) (by decide)]; exact hF⟩
theorem s_step7 (hR : gRm A rows sp) (hF : F 21 = nI rows.length) {t : Nat} (ht : t < rows.length) : ∃ A' F' sp', gMr A F rows sp (rStp rows (sp t)) A' F' sp' ∧ gm_Sp gm_MT (d + 46) 8038 [.ref 24, .int (nI t)] (gw A F nw nx LO DO) (.inl (some (.int (gOz (rStp rows (sp t)).2.1)))) (gw A' F' nw nx LO DO) 0 0 := by
  have hn := s_noTerm1 (A := A) (nw := nw) (nx := nx) (LO := LO) (DO := DO) (d := d + 43) hR.1.1 hF ht
  obtain ⟨A1, F1, m1, k1, h1⟩ := gRm.spell (nw := nw) (nx := nx) (LO := LO) (DO := DO) (d := d + 4) (F := F) hR ht
  have hp := s_place7 (nw := nw) (nx := nx) (LO := LO) (DO := DO) (d := d + 40) m1.1 (by have := m1.2.2.1; omega) m1.2.2.2.1 m1.2.1
  have ks1 : gKs A F A1 F1 := (gKs.th A F 0).trans k1.s
  obtain ⟨r1, f1⟩ := gKm.rm ks1 hR hF
  have hsg := hR.1.sg t ht
  cases hq : tPlace (sp t) with
  | none =>
    rw [hq] at hp
    have e : rStp rows (sp t) = (2, none, rows) := by unfold rStp; rw [hq]
    rw [e]
    have hf := s_fail (A := A1) (F := F1) (nw := nw) (nx := nx) (LO := LO) (DO := DO) (d := d + 44) 2
    refine ⟨A1, va_up F1 20 2, sp, ⟨r1, by rw [g_upn (by decide)]; exact f1, fun _ _ => rfl, ⟨[], by simp⟩, (ks1.trans (gKs.th A1 F1 2)).b, g_upe⟩, gm_mk gm_mX7_step rfl ⟨Or.inr rfl, rfl, rfl, trivial⟩ (fun G X hC hX => ?_)⟩
    refine gm_runs hC [] 200 _ _ _ _ _ _ ?_
    exact Or.inl ⟨_, _, _, _, hn, gx_t (show (0 : Int32) = 0 from rfl) (Or.inl ⟨_, _, _, _, h1, Or.inl ⟨_, _, _, _, hp, gx_f (show ¬ (0 : Int32) ≤ -1 from by decide) (Or.inl ⟨_, _, _, _, hf, hX⟩)⟩⟩)⟩
  | some i =>
    rw [hq] at hp
    obtain ⟨hi, hru⟩ := tPlace_lt hq
    have hl := m1.2.2.1
    have p1 : (0 : Int32) ≤ nI i := nI_pos' (by omega)
    obtain ⟨g1, g2⟩ := s_rewrite7 (nw := nw) (nx := nx) (LO := LO) (DO := DO) (d := d + 40) m1 hi hru
    by_cases h40 : (tRew (sp t) i).length ≤ 40
    · obtain ⟨A2, F2, m2, k2, h2⟩ := g2 h40
      have e : rStp rows (sp t) = (if (rAll (tRew (sp t) i) rows).1.isSome then 0 else 4, rAll (tRew (sp t) i) rows) := by unfold rStp; rw [hq]; exact if_pos h40
      have ks2 := ks1.trans k2.s
      obtain ⟨r2, f2⟩ := gKm.rm ks2 hR hF
      obtain ⟨A3, F3, sp3, b1, b2, b3, b4, b5, b6⟩ := s_learns (nw := nw) (nx := nx) (LO := LO) (DO := DO) (d := d) m2.2.2.1 m2.2.2.2.1 (tRew_sg hsg i) m2.1 r2 f2 4
      rw [e]
      refine ⟨A3, F3, sp3, ⟨b1, b2, b4.1, b4.2.1, ks2.b.trans b5.b, b3⟩, gm_mk gm_mX7_step rfl ⟨Or.inr rfl, rfl, rfl, trivial⟩ (fun G X hC hX => ?_)⟩
      refine gm_runs hC [] 200 _ _ _ _ _ _ ?_
      exact Or.inl ⟨_, _, _, _, hn, gx_t (show (0 : Int32) = 0 from rfl) (Or.inl ⟨_, _, _, _, h1, Or.inl ⟨_, _, _, _, hp, gx_t p1 (Or.inl ⟨_, _, _, _, h2, gx_t (show ¬ (1 : Int32) = 0 from by decide) (Or.inl ⟨_, _, _, _, b6, hX⟩)⟩)⟩⟩)⟩
    · obtain ⟨A2, F2, m2, k2, h2⟩ := g1 h40
      have e : rStp rows (sp t) = (3, none, rows) := by unfold rStp; rw [hq]; exact if_neg h40
      have ks2 := ks1.trans k2.s
      obtain ⟨r2, f2⟩ := gKm.rm ks2 hR hF
      have hf := s_fail (A := A2) (F := F2) (nw := nw) (nx := nx) (LO := LO) (DO := DO) (d := d + 44) 3
      rw [e]
      refine ⟨A2, va_up F2 20 3, sp, ⟨r2, by rw [g_upn (by decide)]; exact f2, fun _ _ => rfl, ⟨[], by simp⟩, (ks2.trans (gKs.th A2 F2 3)).b, g_upe⟩, gm_mk gm_mX7_step rfl ⟨Or.inr rfl, rfl, rfl, trivial⟩ (fun G X hC hX => ?_)⟩
      refine gm_runs hC [] 200 _ _ _ _ _ _ ?_
      exact Or.inl ⟨_, _, _, _, hn, gx_t (show (0 : Int32) = 0 from rfl) (Or.inl ⟨_, _, _, _, h1, Or.inl ⟨_, _, _, _, hp, gx_t p1 (Or.inl ⟨_, _, _, _, h2, gx_f (show ¬ ¬ (0 : Int32) = 0 from fun z => z rfl) (Or.inl ⟨_, _, _, _, hf, hX⟩)⟩)⟩⟩)⟩
theorem s_go7s {x : Int32} : ∀ (f : Nat) (l : List Int32) (A : Nat → Nat → Int32) (F : Nat → Int32), mQ l < f → gMt A F l → ∃ A' F', gKm A F A' F' ∧ ∀ (G : pG) (X : pX), gm_cl gm_mX7_steps gm_tyf none (gm_Sp gm_MT (d + 41)) G X → ∀ m, X (.inl (some (.int (nI (m + (tGo f l).1))))) (gw A' F' nw nx LO DO) 0 0 → G 22 [some (.ref 24), some (.int x), some (.int (nI m)), some (.int (gOI (tPlace l)))] [] (gw A F nw nx LO DO) 0 0 := by
  intro f
  induction f with
  | zero => intro l A F h; omega
  | succ f ih =>
    intro l A F hf hm
    cases hq : tPlace l with
    | none =>
      rw [tGo_none hq]
      refine ⟨A, F, ⟨fun _ _ _ => rfl, fun _ _ _ => rfl⟩, fun G X hC m hX => ?_⟩
      refine gm_run1 hC [22] 200 22 ?_
      exact gx_t (show (-1 : Int32) < 0 from by decide) hX
    | some i =>
      obtain ⟨hi, hru⟩ := tPlace_lt hq
      have hl := hm.2.2.1
      have p1 : ¬ nI i < 0 := nI_pos (by omega)
      obtain ⟨g1, g2⟩ := s_rewrite7 (nw := nw) (nx := nx) (LO := LO) (DO := DO) (d := d + 36) hm hi hru
      by_cases h40 : (tRew l i).length ≤ 40
      · obtain ⟨A2, F2, m2, k2, h2⟩ := g2 h40
        have hlt := mQ_step hm.2.2.2.1 hq h40
        obtain ⟨A3, F3, k3, h3⟩ := ih (tRew l i) A2 F2 (by omega) m2
        have hp := s_place7 (nw := nw) (nx := nx) (LO := LO) (DO := DO) (d := d + 36) m2.1 (by have := m2.2.2.1; omega) m2.2.2.2.1 m2.2.1
        rw [tGo_step hq h40]
        refine ⟨A3, F3, ⟨fun j a b => (k3.1 j a b).trans (k2.1 j a b), fun j a b => (k3.2 j a b).trans (k2.2 j a b)⟩, fun G X hC m hX => ?_⟩
        have h9 := h3 G X hC (m + 1) (by rw [show m + 1 + (tGo f (tRew l i)).1 = m + ((tGo f (tRew l i)).1 + 1) by omega]; exact hX)
        rw [← nI_1] at h9
        refine gm_run1 hC [22] 200 22 ?_
        exact gx_f p1 (Or.inl ⟨_, _, _, _, h2, gx_f (show ¬ (1 : Int32) = 0 from by decide) (Or.inl ⟨_, _, _, _, hp, h9⟩)⟩)
      · obtain ⟨A2, F2, m2, k2, h2⟩ := g1 h40
        rw [tGo_stop hq h40]
        refine ⟨A2, F2, k2, fun G X hC m hX => ?_⟩
        refine gm_run1 hC [22] 200 22 ?_
        exact gx_f p1 (Or.inl ⟨_, _, _, _, h2, gx_t (show (0 : Int32) = 0 from rfl) hX⟩)
theorem s_steps7 (hR : gRm A rows sp) (hF : F 21 = nI rows.length) {t : Nat} (ht : t < rows.length) : ∃ A' F', gKs A F A' F' ∧ F' 20 = 0 ∧ gm_Sp gm_MT (d + 42) 8039 [.ref 24, .int (nI t)] (gw A F nw nx LO DO) (.inl (some (.int (nI (tGo (mQ (sp t) + 1) (sp t)).1)))) (gw A' F' nw nx LO DO) 0 0 := by
  have hn := s_noTerm1 (A := A) (nw := nw) (nx := nx) (LO := LO) (DO := DO) (d := d + 39) hR.1.1 hF ht
  obtain ⟨A1, F1, m1, k1, h1⟩ := gRm.spell (nw := nw) (nx := nx) (LO := LO) (DO := DO) (d := d) (F := F) hR ht
  have hp := s_place7 (nw := nw) (nx := nx) (LO := LO) (DO := DO) (d := d + 36) m1.1 (by have := m1.2.2.1; omega) m1.2.2.2.1 m1.2.1
  obtain ⟨A2, F2, k2, h2⟩ := s_go7s (nw := nw) (nx := nx) (LO := LO) (DO := DO) (d := d) (x := nI t) (mQ (sp t) + 1) (sp t) A1 F1 (by omega) m1
  refine ⟨A2, F2, (gKs.th A F 0).trans (k1.s.trans k2.s), by rw [k2.2 20 (by decide) (by decide), k1.2 20 (by decide) (by decide), g_upe], gm_mk gm_mX7_steps rfl ⟨Or.inr rfl, rfl, rfl, trivial⟩ (fun G X hC hX => ?_)⟩
  have h9 := h2 G X hC 0 (by rw [Nat.zero_add]; exact hX)
  refine gm_runs hC [22] 200 _ _ _ _ _ _ ?_
  exact Or.inl ⟨_, _, _, _, hn, gx_t (show (0 : Int32) = 0 from rfl) (Or.inl ⟨_, _, _, _, h1, Or.inl ⟨_, _, _, _, hp, h9⟩⟩)⟩
theorem s_go7n {x : Int32} : ∀ (f : Nat) (l : List Int32) (A : Nat → Nat → Int32) (F : Nat → Int32), mQ l < f → gMt A F l → gSl l → ∃ A' F', gMt A' F' (tGo f l).2.1 ∧ gSl (tGo f l).2.1 ∧ gKm A F A' F' ∧ ∀ (G : pG) (X : pX), gm_cl gm_mX7_normalForm gm_tyf none (gm_Sp gm_MT (d + 45)) G X → ((tGo f l).2.2 = true → X (.inl (some (.int 0))) (gw A' (va_up F' 20 2) nw nx LO DO) 0 0) → ((tGo f l).2.2 = false → G 46 [some (.ref 24), some (.int x), some (.int (-1))] [] (gw A' F' nw nx LO DO) 0 0) → G 20 [some (.ref 24), some (.int x), some (.int (gOI (tPlace l)))] [] (gw A F nw nx LO DO) 0 0 := by
  intro f
  induction f with
  | zero => intro l A F h; omega
  | succ f ih =>
    intro l A F hf hm hsg
    cases hq : tPlace l with
    | none =>
      rw [tGo_none hq]
      refine ⟨A, F, hm, hsg, ⟨fun _ _ _ => rfl, fun _ _ _ => rfl⟩, fun G X hC hX1 hX2 => ?_⟩
      refine gm_run1 hC [20, 46] 200 20 ?_
      exact gx_t (show (-1 : Int32) < 0 from by decide) (hX2 rfl)
    | some i =>
      obtain ⟨hi, hru⟩ := tPlace_lt hq
      have hl := hm.2.2.1
      have p1 : ¬ nI i < 0 := nI_pos (by omega)
      obtain ⟨g1, g2⟩ := s_rewrite7 (nw := nw) (nx := nx) (LO := LO) (DO := DO) (d := d + 40) hm hi hru
      by_cases h40 : (tRew l i).length ≤ 40
      · obtain ⟨A2, F2, m2, k2, h2⟩ := g2 h40
        have hlt := mQ_step hm.2.2.2.1 hq h40
        obtain ⟨A3, F3, m3, sg3, k3, h3⟩ := ih (tRew l i) A2 F2 (by omega) m2 (tRew_sg hsg i)
        have hp := s_place7 (nw := nw) (nx := nx) (LO := LO) (DO := DO) (d := d + 40) m2.1 (by have := m2.2.2.1; omega) m2.2.2.2.1 m2.2.1
        rw [tGo_step hq h40]
        refine ⟨A3, F3, m3, sg3, ⟨fun j a b => (k3.1 j a b).trans (k2.1 j a b), fun j a b => (k3.2 j a b).trans (k2.2 j a b)⟩, fun G X hC hX1 hX2 => ?_⟩
        have h9 := h3 G X hC hX1 hX2
        refine gm_run1 hC [20, 46] 200 20 ?_
        exact gx_f p1 (Or.inl ⟨_, _, _, _, h2, gx_t (show ¬ (1 : Int32) = 0 from by decide) (Or.inl ⟨_, _, _, _, hp, h9⟩)⟩)
      · obtain ⟨A2, F2, m2, k2, h2⟩ := g1 h40
        have hfl := s_fail (A := A2) (F := F2) (nw := nw) (nx := nx) (LO := LO) (DO := DO) (d := d + 44) 2
        rw [tGo_stop hq h40]
        refine ⟨A2, F2, m2, hsg, k2, fun G X hC hX1 hX2 => ?_⟩
        refine gm_run1 hC [20, 46] 200 20 ?_
        exact gx_f p1 (Or.inl ⟨_, _, _, _, h2, gx_f (show ¬ ¬ (0 : Int32) = 0 from fun z => z rfl) (Or.inl ⟨_, _, _, _, hfl, hX1 rfl⟩)⟩)
theorem s_normal7 (hR : gRm A rows sp) (hF : F 21 = nI rows.length) {t : Nat} (ht : t < rows.length) : ∃ A' F' sp', gMr A F rows sp (rNf rows (sp t)) A' F' sp' ∧ gm_Sp gm_MT (d + 46) 8040 [.ref 24, .int (nI t)] (gw A F nw nx LO DO) (.inl (some (.int (gOz (rNf rows (sp t)).2.1)))) (gw A' F' nw nx LO DO) 0 0 := by
  have hn := s_noTerm1 (A := A) (nw := nw) (nx := nx) (LO := LO) (DO := DO) (d := d + 43) hR.1.1 hF ht
  obtain ⟨A1, F1, m1, k1, h1⟩ := gRm.spell (nw := nw) (nx := nx) (LO := LO) (DO := DO) (d := d + 4) (F := F) hR ht
  have hp := s_place7 (nw := nw) (nx := nx) (LO := LO) (DO := DO) (d := d + 40) m1.1 (by have := m1.2.2.1; omega) m1.2.2.2.1 m1.2.1
  have hsg := hR.1.sg t ht
  obtain ⟨A2, F2, m2, sg2, k2, h2⟩ := s_go7n (nw := nw) (nx := nx) (LO := LO) (DO := DO) (d := d) (x := nI t) (mQ (sp t) + 1) (sp t) A1 F1 (by omega) m1 hsg
  have ks2 : gKs A F A2 F2 := (gKs.th A F 0).trans (k1.s.trans k2.s)
  obtain ⟨r2, f2⟩ := gKm.rm ks2 hR hF
  cases hb : (tGo (mQ (sp t) + 1) (sp t)).2.2 with
  | true =>
    have e : rNf rows (sp t) = (2, none, rows) := by unfold rNf; rw [hb]; exact if_pos rfl
    rw [e]
    refine ⟨A2, va_up F2 20 2, sp, ⟨r2, by rw [g_upn (by decide)]; exact f2, fun _ _ => rfl, ⟨[], by simp⟩, (ks2.trans (gKs.th A2 F2 2)).b, g_upe⟩, gm_mk gm_mX7_normalForm rfl ⟨Or.inr rfl, rfl, rfl, trivial⟩ (fun G X hC hX => ?_)⟩
    have h9 := h2 G X hC (fun _ => hX) (fun z => by rw [hb] at z; cases z)
    refine gm_runs hC [20] 200 _ _ _ _ _ _ ?_
    exact Or.inl ⟨_, _, _, _, hn, gx_t (show (0 : Int32) = 0 from rfl) (Or.inl ⟨_, _, _, _, h1, Or.inl ⟨_, _, _, _, hp, h9⟩⟩)⟩
  | false =>
    have e : rNf rows (sp t) = (if (rAll (tGo (mQ (sp t) + 1) (sp t)).2.1 rows).1.isSome then 0 else 3, rAll (tGo (mQ (sp t) + 1) (sp t)).2.1 rows) := by unfold rNf; rw [hb]; exact if_neg (by decide)
    obtain ⟨A3, F3, sp3, b1, b2, b3, b4, b5, b6⟩ := s_learns (nw := nw) (nx := nx) (LO := LO) (DO := DO) (d := d) m2.2.2.1 m2.2.2.2.1 sg2 m2.1 r2 f2 3
    rw [e]
    refine ⟨A3, F3, sp3, ⟨b1, b2, b4.1, b4.2.1, ks2.b.trans b5.b, b3⟩, gm_mk gm_mX7_normalForm rfl ⟨Or.inr rfl, rfl, rfl, trivial⟩ (fun G X hC hX => ?_)⟩
    have h9 := h2 G X hC (fun z => by rw [hb] at z; cases z) (fun _ => gm_runs hC [] 200 _ _ _ _ _ _ (Or.inl ⟨_, _, _, _, b6, hX⟩))
    refine gm_runs hC [20] 200 _ _ _ _ _ _ ?_
    exact Or.inl ⟨_, _, _, _, hn, gx_t (show (0 : Int32) = 0 from rfl) (Or.inl ⟨_, _, _, _, h1, Or.inl ⟨_, _, _, _, hp, h9⟩⟩)⟩
end X