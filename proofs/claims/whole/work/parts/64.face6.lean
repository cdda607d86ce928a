/-! THE PROVER'S FACE: rules, steps, normal forms -/
/-- all but the prover's texts (and terms) is as before -/
def gKc (A : Nat → Nat → Int32) (F : Nat → Int32) (A' : Nat → Nat → Int32) (F' : Nat → Int32) : Prop := (∀ j, j < 2 ∨ 13 < j → A' j = A j) ∧ (∀ j, 6 < j → F' j = F j)
theorem gKp.c {A A' : Nat → Nat → Int32} {F F' : Nat → Int32} (h : gKp A F A' F') : gKc A F A' F' := ⟨fun j a => h.1 j (by omega) (by omega) (by omega) (by omega), fun j a => h.2 j (by omega) (by omega) (by omega) (by omega) (by omega) (by omega)⟩
theorem gKc.trans {A A1 A2 : Nat → Nat → Int32} {F F1 F2 : Nat → Int32} (h : gKc A F A1 F1) (k : gKc A1 F1 A2 F2) : gKc A F A2 F2 := ⟨fun j a => (k.1 j a).trans (h.1 j a), fun j a => (k.2 j a).trans (h.2 j a)⟩
theorem gKn.c {fc : Nat} (hfc : fc ≤ 6) {A A' : Nat → Nat → Int32} {F F' : Nat → Int32} (h : gKn fc A F A' F') : gKc A F A' F' := ⟨fun j a => h.1 j (by omega), fun j a => h.2 j (by omega) (by omega)⟩
def gNx (nw nx : Nat) : Prop := (nw = 8 ∧ nx = 11) ∨ (nw = 11 ∧ nx = 8)
theorem gNx.xx {nw nx : Nat} (h : gNx nw nx) : ∃ r e fl fc r2 e2 fl2 fc2, gXX nw r e fl fc nx r2 e2 fl2 fc2 := by
  rcases h with ⟨rfl, rfl⟩ | ⟨rfl, rfl⟩
  · exact ⟨9, 10, 3, 4, 12, 13, 5, 6, Or.inl ⟨rfl, rfl, rfl, rfl, rfl, rfl, rfl, rfl, rfl, rfl⟩⟩
  · exact ⟨12, 13, 5, 6, 9, 10, 3, 4, Or.inr ⟨rfl, rfl, rfl, rfl, rfl, rfl, rfl, rfl, rfl, rfl⟩⟩
theorem gXX.nX {nw r e fl fc nx r2 e2 fl2 fc2 : Nat} (h : gXX nw r e fl fc nx r2 e2 fl2 fc2) : gNx nw nx := by
  rcases h with ⟨rfl, -, -, -, -, rfl, -⟩ | ⟨rfl, -, -, -, -, rfl, -⟩
  · exact Or.inl ⟨rfl, rfl⟩
  · exact Or.inr ⟨rfl, rfl⟩
theorem gRw0.nX {A : Nat → Nat → Int32} {F : Nat → Int32} {nw nx : Nat} {l : List Int32} (h : gRw0 A F nw nx l) : gNx nw nx := by
  obtain ⟨r, e, fl, fc, r2, e2, fl2, fc2, hxx, -⟩ := h
  exact hxx.nX
theorem gRw0.V {A : Nat → Nat → Int32} {F : Nat → Int32} {nw nx : Nat} {l : List Int32} (h : gRw0 A F nw nx l) : tV l ∧ l.length ≤ 40 := by
  obtain ⟨r, e, fl, fc, r2, e2, fl2, fc2, hxx, n1, n2, n3, n4, n6⟩ := h
  exact ⟨n6, n2⟩
section X
variable {nw nx : Nat} {LO : Nat → Int64} {DO : Nat → UInt64} {d : Nat} {A : Nat → Nat → Int32} {F : Nat → Int32} {rows : List (Int32 × Int32 × Int32)} {sp : Nat → List Int32} {l : List Int32}
theorem s_ruleOr1 (h : gRw0 A F nw nx l) {i : Nat} (hi : tPlace l = some i) : ∃ A' F', gRw A' F' nw nx l ∧ gKp A F A' F' ∧ gm_Sp gm_MT (d + 7) 7029 [.ref 0] (gw A F nw nx LO DO) (.inl (some (.int (tRule l i)))) (gw A' F' nw nx LO DO) 0 0 := by
  obtain ⟨A', F', h1, h2, hc⟩ := s_seek0 (LO := LO) (DO := DO) (d := d) h
  refine ⟨A', F', h1, h2, gm_mk gm_mX6_ruleOrThrow rfl ⟨Or.inr rfl, rfl, rfl, trivial⟩ (fun G X hC hX => ?_)⟩
  have hr := s_nextRule (LO := LO) (DO := DO) (d := d + 5) h1 hi
  rw [hi] at hc
  refine gm_runs hC [] 200 _ _ _ _ _ _ ?_
  exact Or.inl ⟨_, _, _, _, hc, gx_t (show ¬ (1 : Int32) = 0 from by decide) (Or.inl ⟨_, _, _, _, hr, gx_c hX (tRule_ch l i) rfl rfl⟩)⟩
theorem s_ruleOr2 (h : gRw0 A F nw nx l) (hi : tPlace l = none) : ∃ A' F', gRw A' F' nw nx l ∧ gKp A F A' F' ∧ gm_Sp gm_MT (d + 7) 7029 [.ref 0] (gw A F nw nx LO DO) (.inr "java/util/NoSuchElementException") (gw A' F' nw nx LO DO) 1 6 := by
  obtain ⟨A', F', h1, h2, hc⟩ := s_seek0 (LO := LO) (DO := DO) (d := d) h
  refine ⟨A', F', h1, h2, gm_mk gm_mX6_ruleOrThrow rfl ⟨Or.inr rfl, rfl, rfl, rfl, rfl, gm_plain⟩ (fun G X hC hX => ?_)⟩
  rw [hi] at hc
  refine gm_runs hC [] 200 _ _ _ _ _ _ ?_
  exact Or.inl ⟨_, _, _, _, hc, gx_f (show ¬ ¬ (0 : Int32) = 0 from fun z => z rfl) hX⟩
theorem s_rewOr1 (h : gRw A F nw nx l) {i : Nat} (hi : tPlace l = some i) (h40 : (tRew l i).length ≤ 40) : ∃ A' F', gRw0 A' F' nx nw (tRew l i) ∧ gKp A F A' F' ∧ gm_Sp gm_MT (d + 8) 7030 [.ref 0] (gw A F nw nx LO DO) (.inl none) (gw A' F' nx nw LO DO) 0 0 := by
  obtain ⟨A', F', h1, h2, h3⟩ := (s_rewrite (LO := LO) (DO := DO) (d := d) h hi).2 h40
  refine ⟨A', F', h1, h2, gm_mk gm_mX6_rewriteOrThrow rfl ⟨Or.inr rfl, rfl, rfl, trivial⟩ (fun G X hC hX => ?_)⟩
  refine gm_runs hC [] 200 _ _ _ _ _ _ ?_
  exact Or.inl ⟨_, _, _, _, h3, gx_t (show ¬ (1 : Int32) = 0 from by decide) hX⟩
theorem s_rewOr2 (h : gRw A F nw nx l) {i : Nat} (hi : tPlace l = some i) (h40 : ¬ (tRew l i).length ≤ 40) : ∃ A' F', gRw0 A' F' nw nx l ∧ gKp A F A' F' ∧ gm_Sp gm_MT (d + 8) 7030 [.ref 0] (gw A F nw nx LO DO) (.inr "java/lang/UnsupportedOperationException") (gw A' F' nw nx LO DO) 1 6 := by
  obtain ⟨A', F', h1, h2, h3⟩ := (s_rewrite (LO := LO) (DO := DO) (d := d) h hi).1 h40
  refine ⟨A', F', h1, h2, gm_mk gm_mX6_rewriteOrThrow rfl ⟨Or.inr rfl, rfl, rfl, rfl, rfl, gm_plain⟩ (fun G X hC hX => ?_)⟩
  refine gm_runs hC [] 200 _ _ _ _ _ _ ?_
  exact Or.inl ⟨_, _, _, _, h3, gx_f (show ¬ ¬ (0 : Int32) = 0 from fun z => z rfl) hX⟩
theorem gRp.load (hR : gRp A rows sp) (hF : F 0 = nI rows.length) (hx : gNx nw nx) {t : Nat} (ht : t < rows.length) : ∃ A' F', gRw0 A' F' nw nx (sp t) ∧ gKp A F A' F' ∧ gm_Sp gm_MT (d + 7) 2001 [.ref 7, .ref 1, .int (nI t)] (gw A F nw nx LO DO) (.inl none) (gw A' F' nw nx LO DO) 0 0 := by
  obtain ⟨r, e, fl, fc, r2, e2, fl2, fc2, hxx⟩ := hx.xx
  exact s_load hxx hR.1 hF ht
theorem gKp.rp {A' : Nat → Nat → Int32} {F' : Nat → Int32} (k : gKp A F A' F') (hR : gRp A rows sp) (hF : F 0 = nI rows.length) : gRp A' rows sp ∧ F' 0 = nI rows.length := by
  unfold gRp at hR ⊢
  rw [k.1 2 (by decide) (by decide) (by decide) (by decide), k.1 3 (by decide) (by decide) (by decide) (by decide), k.1 4 (by decide) (by decide) (by decide) (by decide), k.1 5 (by decide) (by decide) (by decide) (by decide), k.1 6 (by decide) (by decide) (by decide) (by decide)]
  exact ⟨hR, by rw [k.2 0 (by decide) (by decide) (by decide) (by decide) (by decide) (by decide)]; exact hF⟩
theorem s_rule6 (hR : gRp A rows sp) (hF : F 0 = nI rows.length) (hx : gNx nw nx) {t : Nat} (ht : t < rows.length) : ∃ A' F', gKp A F A' F' ∧ (tPlace (sp t) = none → gm_Sp gm_MT (d + 10) 7022 [.ref 0, .int (nI t)] (gw A F nw nx LO DO) (.inr "java/util/NoSuchElementException") (gw A' F' nw nx LO DO) 1 6) ∧ (∀ i, tPlace (sp t) = some i → gm_Sp gm_MT (d + 10) 7022 [.ref 0, .int (nI t)] (gw A F nw nx LO DO) (.inl (some (.int (tRule (sp t) i)))) (gw A' F' nw nx LO DO) 0 0) := by
  have hc := s_checkTerm1 (A := A) (F := F) (nw := nw) (nx := nx) (LO := LO) (DO := DO) (d := d + 7) hR.1.1 hF ht
  obtain ⟨A1, F1, w1, k1, h1⟩ := gRp.load (LO := LO) (DO := DO) (d := d + 2) hR hF hx ht
  cases hq : tPlace (sp t) with
  | none =>
    obtain ⟨A2, F2, w2, k2, hr⟩ := s_ruleOr2 (LO := LO) (DO := DO) (d := d + 2) w1 hq
    refine ⟨A2, F2, k1.trans k2, fun _ => gm_mk gm_mX6_rule rfl ⟨Or.inr rfl, rfl, rfl, rfl, rfl, gm_plain⟩ (fun G X hC hX => ?_), fun i z => (by cases z)⟩
    refine gm_runs hC [] 200 _ _ _ _ _ _ ?_
    exact Or.inl ⟨_, _, _, _, hc, Or.inl ⟨_, _, _, _, h1, Or.inr ⟨_, _, _, _, hr, hX⟩⟩⟩
  | some i =>
    obtain ⟨A2, F2, w2, k2, hr⟩ := s_ruleOr1 (LO := LO) (DO := DO) (d := d + 2) w1 hq
    refine ⟨A2, F2, k1.trans k2, fun z => (by cases z), fun j hj => ?_⟩
    cases hj
    refine gm_mk gm_mX6_rule rfl ⟨Or.inr rfl, rfl, rfl, trivial⟩ (fun G X hC hX => ?_)
    refine gm_runs hC [] 200 _ _ _ _ _ _ ?_
    exact Or.inl ⟨_, _, _, _, hc, Or.inl ⟨_, _, _, _, h1, Or.inl ⟨_, _, _, _, hr, gx_c hX (tRule_ch _ i) rfl rfl⟩⟩⟩
/-- what a call of the prover leaves that may make terms -/
def gMp (A : Nat → Nat → Int32) (F : Nat → Int32) (rows : List (Int32 × Int32 × Int32)) (sp : Nat → List Int32) (r : Int32 × Option Nat × List (Int32 × Int32 × Int32)) (A' : Nat → Nat → Int32) (F' : Nat → Int32) (nw nx : Nat) (sp' : Nat → List Int32) : Prop := gRp A' r.2.2 sp' ∧ F' 0 = nI r.2.2.length ∧ (∀ t, t < rows.length → sp' t = sp t) ∧ (∃ more, r.2.2 = rows ++ more) ∧ gKc A F A' F' ∧ gNx nw nx
/-- the text now is learned -/
theorem gRw0.learn (h : gRw0 A F nw nx l) (hsg : gSl l) (hR : gRp A rows sp) (hF : F 0 = nI rows.length) : ∃ A' F' sp', gRp A' (rAll l rows).2 sp' ∧ F' 0 = nI (rAll l rows).2.length ∧ gLe l rows sp sp' ∧ gKc A F A' F' ∧ gm_Sp gm_MT (d + 46) 5012 [.ref 1, .ref nw] (gw A F nw nx LO DO) (.inl (some (.int (gOI (rAll l rows).1)))) (gw A' F' nw nx LO DO) 0 0 := by
  obtain ⟨r, e, fl, fc, r2, e2, fl2, fc2, hxx, n1, n2, n3, n4, n6⟩ := h
  have hfc : fc ≤ 6 := by rcases hxx with ⟨-, -, -, -, rfl, -⟩ | ⟨-, -, -, -, rfl, -⟩ <;> decide
  obtain ⟨A1, F1, sp1, a1, a2, a3, a4, a5⟩ := s_makeAll (nw := nw) (nx := nx) (LO := LO) (DO := DO) (d := d) hxx.l n2 n6 hsg n4 n3 n1 hR hF
  exact ⟨A1, F1, sp1, a1, a2, a3, a4.c hfc, a5⟩
theorem s_step6 (hR : gRp A rows sp) (hF : F 0 = nI rows.length) (hx : gNx nw nx) {t : Nat} (ht : t < rows.length) : ∃ A' F' nw' nx' sp', gMp A F rows sp (rStp rows (sp t)) A' F' nw' nx' sp' ∧ (∀ j, (rStp rows (sp t)).2.1 = some j → gm_Sp gm_MT (d + 47) 7023 [.ref 0, .int (nI t)] (gw A F nw nx LO DO) (.inl (some (.int (nI j)))) (gw A' F' nw' nx' LO DO) 0 0) ∧ ((rStp rows (sp t)).2.1 = none → gm_Sp gm_MT (d + 47) 7023 [.ref 0, .int (nI t)] (gw A F nw nx LO DO) (.inr (if (rStp rows (sp t)).1 = 2 then "java/util/NoSuchElementException" else if (rStp rows (sp t)).1 = 3 then "java/lang/UnsupportedOperationException" else "java/lang/IllegalStateException")) (gw A' F' nw' nx' LO DO) 1 6) := by
  have hc := s_checkTerm1 (A := A) (F := F) (nw := nw) (nx := nx) (LO := LO) (DO := DO) (d := d + 44) hR.1.1 hF ht
  obtain ⟨A1, F1, w1, k1, h1⟩ := gRp.load (LO := LO) (DO := DO) (d := d + 39) hR hF hx ht
  obtain ⟨r1, f1⟩ := k1.rp hR hF
  cases hq : tPlace (sp t) with
  | none =>
    have e : rStp rows (sp t) = (2, none, rows) := by unfold rStp; rw [hq]
    obtain ⟨Am, Fm, wm, km, hr⟩ := s_ruleOr2 (LO := LO) (DO := DO) (d := d + 39) w1 hq
    obtain ⟨rm, fm⟩ := km.rp r1 f1
    rw [e]
    refine ⟨Am, Fm, nw, nx, sp, ⟨rm, fm, fun _ _ => rfl, ⟨[], by simp⟩, k1.c.trans km.c, hx⟩, fun j hj => (by cases hj), fun _ => gm_mk gm_mX6_step rfl ⟨Or.inr rfl, rfl, rfl, rfl, rfl, gm_plain⟩ (fun G X hC hX => ?_)⟩
    rw [if_pos rfl] at hX
    refine gm_runs hC [] 200 _ _ _ _ _ _ ?_
    exact Or.inl ⟨_, _, _, _, hc, Or.inl ⟨_, _, _, _, h1, Or.inr ⟨_, _, _, _, hr, hX⟩⟩⟩
  | some i =>
    obtain ⟨Am, Fm, wm, km, hr⟩ := s_ruleOr1 (LO := LO) (DO := DO) (d := d + 39) w1 hq
    obtain ⟨rm, fm⟩ := km.rp r1 f1
    by_cases h40 : (tRew (sp t) i).length ≤ 40
    · have e : rStp rows (sp t) = (if (rAll (tRew (sp t) i) rows).1.isSome then 0 else 4, rAll (tRew (sp t) i) rows) := by unfold rStp; rw [hq]; exact if_pos h40
      obtain ⟨A2, F2, w2, k2, h2⟩ := s_rewOr1 (LO := LO) (DO := DO) (d := d + 38) wm hq h40
      obtain ⟨r2, f2⟩ := k2.rp rm fm
      have ht2 := s_text (A := A2) (F := F2) (nw := nx) (nx := nw) (LO := LO) (DO := DO) (d := d + 45)
      obtain ⟨A3, F3, sp3, b1, b2, b3, b4, b5⟩ := w2.learn (LO := LO) (DO := DO) (d := d) (tRew_sg (hR.1.sg t ht) i) r2 f2
      have hn3 := b1.1.1
      rw [e]
      cases ho : (rAll (tRew (sp t) i) rows).1 with
      | some j =>
        have hj := (b3.2.2 j ho).1
        rw [ho] at b5
        have hm := s_made1 (A := A3) (F := F3) (nw := nx) (nx := nw) (LO := LO) (DO := DO) (d := d + 45) (j := j) (by omega)
        refine ⟨A3, F3, nx, nw, sp3, ⟨b1, b2, b3.1, b3.2.1, ((k1.c.trans km.c).trans k2.c).trans b4, w2.nX⟩, fun i hi => ?_, fun z => (by cases z)⟩
        cases hi
        refine gm_mk gm_mX6_step rfl ⟨Or.inr rfl, rfl, rfl, trivial⟩ (fun G X hC hX => ?_)
        refine gm_runs hC [] 200 _ _ _ _ _ _ ?_
        exact Or.inl ⟨_, _, _, _, hc, Or.inl ⟨_, _, _, _, h1, Or.inl ⟨_, _, _, _, hr, Or.inl ⟨_, _, _, _, h2, Or.inl ⟨_, _, _, _, ht2, Or.inl ⟨_, _, _, _, b5, Or.inl ⟨_, _, _, _, hm, hX⟩⟩⟩⟩⟩⟩⟩
      | none =>
        rw [ho] at b5
        have hm := s_made2 (A := A3) (F := F3) (nw := nx) (nx := nw) (LO := LO) (DO := DO) (d := d + 45)
        refine ⟨A3, F3, nx, nw, sp3, ⟨b1, b2, b3.1, b3.2.1, ((k1.c.trans km.c).trans k2.c).trans b4, w2.nX⟩, fun i hi => (by cases hi), fun _ => gm_mk gm_mX6_step rfl ⟨Or.inr rfl, rfl, rfl, rfl, rfl, gm_plain⟩ (fun G X hC hX => ?_)⟩
        have hX : X (.inr "java/lang/IllegalStateException") (gw A3 F3 nx nw LO DO) 1 6 := hX
        refine gm_runs hC [] 200 _ _ _ _ _ _ ?_
        exact Or.inl ⟨_, _, _, _, hc, Or.inl ⟨_, _, _, _, h1, Or.inl ⟨_, _, _, _, hr, Or.inl ⟨_, _, _, _, h2, Or.inl ⟨_, _, _, _, ht2, Or.inl ⟨_, _, _, _, b5, Or.inr ⟨_, _, _, _, hm, hX⟩⟩⟩⟩⟩⟩⟩
    · have e : rStp rows (sp t) = (3, none, rows) := by unfold rStp; rw [hq]; exact if_neg h40
      obtain ⟨A2, F2, w2, k2, h2⟩ := s_rewOr2 (LO := LO) (DO := DO) (d := d + 38) wm hq h40
      obtain ⟨r2, f2⟩ := k2.rp rm fm
      rw [e]
      refine ⟨A2, F2, nw, nx, sp, ⟨r2, f2, fun _ _ => rfl, ⟨[], by simp⟩, (k1.c.trans km.c).trans k2.c, hx⟩, fun j hj => (by cases hj), fun _ => gm_mk gm_mX6_step rfl ⟨Or.inr rfl, rfl, rfl, rfl, rfl, gm_plain⟩ (fun G X hC hX => ?_)⟩
      have hX : X (.inr "java/lang/UnsupportedOperationException") (gw A2 F2 nw nx LO DO) 1 6 := hX
      refine gm_runs hC [] 200 _ _ _ _ _ _ ?_
      exact Or.inl ⟨_, _, _, _, hc, Or.inl ⟨_, _, _, _, h1, Or.inl ⟨_, _, _, _, hr, Or.inr ⟨_, _, _, _, h2, hX⟩⟩⟩⟩
theorem s_go6s {x : Int32} : ∀ (f : Nat) (l : List Int32) (A : Nat → Nat → Int32) (F : Nat → Int32) (nw nx : Nat), mQ l < f → gRw0 A F nw nx l → ∃ A' F' nw' nx', gKp A F A' F' ∧ gNx nw' nx' ∧ ∀ (G : pG) (X : pX), gm_cl gm_mX6_steps gm_tyf none (gm_Sp gm_MT (d + 7)) G X → ∀ m, m + mQ l < 1000000 → X (.inl (some (.int (nI (m + (tGo f l).1))))) (gw A' F' nw' nx' LO DO) 0 0 → G 19 [some (.ref 0), some (.int x), some (.int (nI m))] [] (gw A F nw nx LO DO) 0 0 := by
  intro f
  induction f with
  | zero => intro l A F nw nx h; omega
  | succ f ih =>
    intro l A F nw nx hf hw
    obtain ⟨Am, Fm, wm, km, hcg⟩ := s_seek0 (LO := LO) (DO := DO) (d := d + 1) hw
    cases hq : tPlace l with
    | none =>
      rw [hq] at hcg
      rw [tGo_none hq]
      refine ⟨Am, Fm, nw, nx, km, hw.nX, fun G X hC m hm hX => ?_⟩
      have n1 : ¬ (1000000 : Int32) ≤ nI m := nI_ge (b := 1000000) (by omega) (by decide)
      refine gm_run1 hC [19] 200 19 ?_
      exact gx_f n1 (Or.inl ⟨_, _, _, _, hcg, gx_t (show (0 : Int32) = 0 from rfl) hX⟩)
    | some i =>
      rw [hq] at hcg
      by_cases h40 : (tRew l i).length ≤ 40
      · obtain ⟨A2, F2, w2, k2, h2⟩ := (s_rewrite (LO := LO) (DO := DO) (d := d) wm hq).2 h40
        have hlt := mQ_step hw.V.1 hq h40
        obtain ⟨A3, F3, nw3, nx3, k3, x3, h3⟩ := ih (tRew l i) A2 F2 nx nw (by omega) w2
        rw [tGo_step hq h40]
        refine ⟨A3, F3, nw3, nx3, km.trans (k2.trans k3), x3, fun G X hC m hm hX => ?_⟩
        have n1 : ¬ (1000000 : Int32) ≤ nI m := nI_ge (b := 1000000) (by omega) (by decide)
        have h9 := h3 G X hC (m + 1) (by omega) (by rw [show m + 1 + (tGo f (tRew l i)).1 = m + ((tGo f (tRew l i)).1 + 1) by omega]; exact hX)
        rw [← nI_1] at h9
        refine gm_run1 hC [19] 200 19 ?_
        exact gx_f n1 (Or.inl ⟨_, _, _, _, hcg, gx_f (show ¬ (1 : Int32) = 0 from by decide) (Or.inl ⟨_, _, _, _, h2, gx_f (show ¬ (1 : Int32) = 0 from by decide) h9⟩)⟩)
      · obtain ⟨A2, F2, w2, k2, h2⟩ := (s_rewrite (LO := LO) (DO := DO) (d := d) wm hq).1 h40
        rw [tGo_stop hq h40]
        refine ⟨A2, F2, nw, nx, km.trans k2, hw.nX, fun G X hC m hm hX => ?_⟩
        have n1 : ¬ (1000000 : Int32) ≤ nI m := nI_ge (b := 1000000) (by omega) (by decide)
        refine gm_run1 hC [19] 200 19 ?_
        exact gx_f n1 (Or.inl ⟨_, _, _, _, hcg, gx_f (show ¬ (1 : Int32) = 0 from by decide) (Or.inl ⟨_, _, _, _, h2, gx_t (show (0 : Int32) = 0 from rfl) hX⟩)⟩)
theorem s_steps6 (hR : gRp A rows sp) (hF : F 0 = nI rows.length) (hx : gNx nw nx) {t : Nat} (ht : t < rows.length) : ∃ A' F' nw' nx', gKp A F A' F' ∧ gNx nw' nx' ∧ gm_Sp gm_MT (d + 8) 7024 [.ref 0, .int (nI t)] (gw A F nw nx LO DO) (.inl (some (.int (nI (tGo (mQ (sp t) + 1) (sp t)).1)))) (gw A' F' nw' nx' LO DO) 0 0 := by
  have hc := s_checkTerm1 (A := A) (F := F) (nw := nw) (nx := nx) (LO := LO) (DO := DO) (d := d + 5) hR.1.1 hF ht
  obtain ⟨A1, F1, w1, k1, h1⟩ := gRp.load (LO := LO) (DO := DO) (d := d) hR hF hx ht
  obtain ⟨A2, F2, nw2, nx2, k2, x2, h2⟩ := s_go6s (LO := LO) (DO := DO) (d := d) (x := nI t) (mQ (sp t) + 1) (sp t) A1 F1 nw nx (by omega) w1
  have hb := (mQ_bound w1.V.1 w1.V.2).2
  refine ⟨A2, F2, nw2, nx2, k1.trans k2, x2, gm_mk gm_mX6_steps rfl ⟨Or.inr rfl, rfl, rfl, trivial⟩ (fun G X hC hX => ?_)⟩
  have h9 := h2 G X hC 0 (by omega) (by rw [Nat.zero_add]; exact hX)
  refine gm_runs hC [19] 200 _ _ _ _ _ _ ?_
  exact Or.inl ⟨_, _, _, _, hc, Or.inl ⟨_, _, _, _, h1, h9⟩⟩
theorem s_go6n {x : Int32} : ∀ (f : Nat) (l : List Int32) (A : Nat → Nat → Int32) (F : Nat → Int32) (nw nx : Nat), mQ l < f → gRw0 A F nw nx l → gSl l → ∃ A' F' nw' nx', gRw0 A' F' nw' nx' (tGo f l).2.1 ∧ gSl (tGo f l).2.1 ∧ gKp A F A' F' ∧ ∀ (G : pG) (X : pX), gm_cl gm_mX6_normalForm gm_tyf none (gm_Sp gm_MT (d + 46)) G X → ∀ m, m + mQ l < 1000000 → ((tGo f l).2.2 = true → X (.inr "java/lang/UnsupportedOperationException") (gw A' F' nw' nx' LO DO) 1 6) → ((tGo f l).2.2 = false → ∀ m, G 45 [some (.ref 0), some (.int x), some (.int m)] [] (gw A' F' nw' nx' LO DO) 0 0) → G 19 [some (.ref 0), some (.int x), some (.int (nI m))] [] (gw A F nw nx LO DO) 0 0 := by
  intro f
  induction f with
  | zero => intro l A F nw nx h; omega
  | succ f ih =>
    intro l A F nw nx hf hw hsg
    obtain ⟨Am, Fm, wm, km, hcg⟩ := s_seek0 (LO := LO) (DO := DO) (d := d + 40) hw
    cases hq : tPlace l with
    | none =>
      rw [hq] at hcg
      rw [tGo_none hq]
      refine ⟨Am, Fm, nw, nx, wm.zero, hsg, km, fun G X hC m hm hX1 hX2 => ?_⟩
      have n1 : ¬ (1000000 : Int32) ≤ nI m := nI_ge (b := 1000000) (by omega) (by decide)
      have h9 := hX2 rfl (nI m)
      refine gm_run1 hC [19, 45] 200 19 ?_
      exact gx_f n1 (Or.inl ⟨_, _, _, _, hcg, gx_t (show (0 : Int32) = 0 from rfl) h9⟩)
    | some i =>
      rw [hq] at hcg
      by_cases h40 : (tRew l i).length ≤ 40
      · obtain ⟨A2, F2, w2, k2, h2⟩ := s_rewOr1 (LO := LO) (DO := DO) (d := d + 38) wm hq h40
        have hlt := mQ_step hw.V.1 hq h40
        obtain ⟨A3, F3, nw3, nx3, w3, sg3, k3, h3⟩ := ih (tRew l i) A2 F2 nx nw (by omega) w2 (tRew_sg hsg i)
        rw [tGo_step hq h40]
        refine ⟨A3, F3, nw3, nx3, w3, sg3, km.trans (k2.trans k3), fun G X hC m hm hX1 hX2 => ?_⟩
        have n1 : ¬ (1000000 : Int32) ≤ nI m := nI_ge (b := 1000000) (by omega) (by decide)
        have h9 := h3 G X hC (m + 1) (by omega) hX1 hX2
        rw [← nI_1] at h9
        refine gm_run1 hC [19, 45] 200 19 ?_
        exact gx_f n1 (Or.inl ⟨_, _, _, _, hcg, gx_f (show ¬ (1 : Int32) = 0 from by decide) (Or.inl ⟨_, _, _, _, h2, h9⟩)⟩)
      · obtain ⟨A2, F2, w2, k2, h2⟩ := s_rewOr2 (LO := LO) (DO := DO) (d := d + 38) wm hq h40
        rw [tGo_stop hq h40]
        refine ⟨A2, F2, nw, nx, w2, hsg, km.trans k2, fun G X hC m hm hX1 hX2 => ?_⟩
        have n1 : ¬ (1000000 : Int32) ≤ nI m := nI_ge (b := 1000000) (by omega) (by decide)
        refine gm_run1 hC [19, 45] 200 19 ?_
        exact gx_f n1 (Or.inl ⟨_, _, _, _, hcg, gx_f (show ¬ (1 : Int32) = 0 from by decide) (Or.inr ⟨_, _, _, _, h2, hX1 rfl⟩)⟩)
theorem s_normal6 (hR : gRp A rows sp) (hF : F 0 = nI rows.length) (hx : gNx nw nx) {t : Nat} (ht : t < rows.length) : ∃ A' F' nw' nx' sp', gMp A F rows sp (rNf rows (sp t)) A' F' nw' nx' sp' ∧ (∀ j, (rNf rows (sp t)).2.1 = some j → gm_Sp gm_MT (d + 47) 7025 [.ref 0, .int (nI t)] (gw A F nw nx LO DO) (.inl (some (.int (nI j)))) (gw A' F' nw' nx' LO DO) 0 0) ∧ ((rNf rows (sp t)).2.1 = none → gm_Sp gm_MT (d + 47) 7025 [.ref 0, .int (nI t)] (gw A F nw nx LO DO) (.inr (if (rNf rows (sp t)).1 = 2 then "java/lang/UnsupportedOperationException" else "java/lang/IllegalStateException")) (gw A' F' nw' nx' LO DO) 1 6) := by
  have hc := s_checkTerm1 (A := A) (F := F) (nw := nw) (nx := nx) (LO := LO) (DO := DO) (d := d + 44) hR.1.1 hF ht
  obtain ⟨A1, F1, w1, k1, h1⟩ := gRp.load (LO := LO) (DO := DO) (d := d + 39) hR hF hx ht
  obtain ⟨A2, F2, nw2, nx2, w2, sg2, k2, h2⟩ := s_go6n (LO := LO) (DO := DO) (d := d) (x := nI t) (mQ (sp t) + 1) (sp t) A1 F1 nw nx (by omega) w1 (hR.1.sg t ht)
  obtain ⟨r2, f2⟩ := (k1.trans k2).rp hR hF
  have hb := (mQ_bound w1.V.1 w1.V.2).2
  cases hg : (tGo (mQ (sp t) + 1) (sp t)).2.2 with
  | true =>
    have e : rNf rows (sp t) = (2, none, rows) := by unfold rNf; rw [hg]; exact if_pos rfl
    rw [e]
    refine ⟨A2, F2, nw2, nx2, sp, ⟨r2, f2, fun _ _ => rfl, ⟨[], by simp⟩, (k1.trans k2).c, w2.nX⟩, fun j hj => (by cases hj), fun _ => gm_mk gm_mX6_normalForm rfl ⟨Or.inr rfl, rfl, rfl, rfl, rfl, gm_plain⟩ (fun G X hC hX => ?_)⟩
    rw [if_pos rfl] at hX
    have h9 := h2 G X hC 0 (by omega) (fun _ => hX) (fun z => by rw [hg] at z; cases z)
    refine gm_runs hC [19] 200 _ _ _ _ _ _ ?_
    exact Or.inl ⟨_, _, _, _, hc, Or.inl ⟨_, _, _, _, h1, h9⟩⟩
  | false =>
    have e : rNf rows (sp t) = (if (rAll (tGo (mQ (sp t) + 1) (sp t)).2.1 rows).1.isSome then 0 else 3, rAll (tGo (mQ (sp t) + 1) (sp t)).2.1 rows) := by unfold rNf; rw [hg]; exact if_neg (by decide)
    have ht2 := s_text (A := A2) (F := F2) (nw := nw2) (nx := nx2) (LO := LO) (DO := DO) (d := d + 45)
    obtain ⟨A3, F3, sp3, b1, b2, b3, b4, b5⟩ := w2.learn (LO := LO) (DO := DO) (d := d) sg2 r2 f2
    have hn3 := b1.1.1
    rw [e]
    cases ho : (rAll (tGo (mQ (sp t) + 1) (sp t)).2.1 rows).1 with
    | some j =>
      have hj := (b3.2.2 j ho).1
      rw [ho] at b5
      have hm := s_made1 (A := A3) (F := F3) (nw := nw2) (nx := nx2) (LO := LO) (DO := DO) (d := d + 45) (j := j) (by omega)
      refine ⟨A3, F3, nw2, nx2, sp3, ⟨b1, b2, b3.1, b3.2.1, (k1.trans k2).c.trans b4, w2.nX⟩, fun i hi => ?_, fun z => (by cases z)⟩
      cases hi
      refine gm_mk gm_mX6_normalForm rfl ⟨Or.inr rfl, rfl, rfl, trivial⟩ (fun G X hC hX => ?_)
      have h9 := h2 G X hC 0 (by omega) (fun z => by rw [hg] at z; cases z) (fun _ m => gm_runs hC [] 200 _ _ _ _ _ _ (Or.inl ⟨_, _, _, _, ht2, Or.inl ⟨_, _, _, _, b5, Or.inl ⟨_, _, _, _, hm, hX⟩⟩⟩))
      refine gm_runs hC [19] 200 _ _ _ _ _ _ ?_
      exact Or.inl ⟨_, _, _, _, hc, Or.inl ⟨_, _, _, _, h1, h9⟩⟩
    | none =>
      rw [ho] at b5
      have hm := s_made2 (A := A3) (F := F3) (nw := nw2) (nx := nx2) (LO := LO) (DO := DO) (d := d + 45)
      refine ⟨A3, F3, nw2, nx2, sp3, ⟨b1, b2, b3.1, b3.2.1, (k1.trans k2).c.trans b4, w2.nX⟩, fun i hi => (by cases hi), fun _ => gm_mk gm_mX6_normalForm rfl ⟨Or.inr rfl, rfl, rfl, rfl, rfl, gm_plain⟩ (fun G X hC hX => ?_)⟩
      have hX : X (.inr "java/lang/IllegalStateException") (gw A3 F3 nw2 nx2 LO DO) 1 6 := hX
      have h9 := h2 G X hC 0 (by omega) (fun z => by rw [hg] at z; cases z) (fun _ m => gm_runs hC [] 200 _ _ _ _ _ _ (Or.inl ⟨_, _, _, _, ht2, Or.inl ⟨_, _, _, _, b5, Or.inr ⟨_, _, _, _, hm, hX⟩⟩⟩))
      refine gm_runs hC [19] 200 _ _ _ _ _ _ ?_
      exact Or.inl ⟨_, _, _, _, hc, Or.inl ⟨_, _, _, _, h1, h9⟩⟩
end X