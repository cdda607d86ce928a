/-! COUNTING MODELS by trying: every way to place elements -/
theorem lPow16 : ∀ e, e < 4 → lPow 16 e 1 = lN (16 ^ e) := by decide +kernel
theorem lN_cmp {a b : Nat} (ha : a < 2 ^ 31) (hb : b < 2 ^ 31) : (0 ≤ lg_cmp (lN a) (lN b)) ↔ b ≤ a := by
  rw [lg_cmp_ge, Int64.le_iff_toInt_le, lN_toInt ha, lN_toInt hb]
  omega
section X
variable {nw nx : Nat} {LO : Nat → Int64} {DO : Nat → UInt64} {d n : Nat} {A : Nat → Nat → Int32} {F : Nat → Int32}
def cbQ (D P : Nat → Int32) (n e i : Nat) : Bool := sEv (sHo D P (sOcc (nI i) e 0 0)) n 0
theorem s_countByTrying3 (hF : F 7 = nI n) (hn : n ≤ 6) {e : Nat} (he : e < 4) : gm_Sp gm_MT (d + 3) 4021 [.ref 18, .int (nI e)] (gw A F nw nx LO DO) (.inl (some (.long (lSum (cbQ (A 19) (A 20) n e) (fun _ => 1) (16 ^ e) 0 0)))) (gw A F nw nx LO DO) 0 0 := by
  refine gm_mk gm_mX3_countModelsByTrying rfl ⟨Or.inr rfl, rfl, rfl, trivial⟩ (fun G X hC hX => ?_)
  have hp := s_power3 (A := A) (F := F) (nw := nw) (nx := nx) (LO := LO) (DO := DO) (d := d + 1) 16 (n := e) (by omega)
  rw [lPow16 e he] at hp
  have h4 : 16 ^ e ≤ 4096 := Nat.le_trans (Nat.pow_le_pow_right (by decide) (show e ≤ 3 by omega)) (by decide)
  have loop : ∀ (m i : Nat) (acc : Int64), i + m = 16 ^ e → X (.inl (some (.long (lSum (cbQ (A 19) (A 20) n e) (fun _ => 1) m i acc)))) (gw A F nw nx LO DO) 0 0 → G 13 [some (.ref 18), some (.int (nI e)), some (.long acc), none, some (.long (lN (16 ^ e))), none, some (.long (lN i)), none] [] (gw A F nw nx LO DO) 0 0 := by
    intro m
    induction m with
    | zero =>
      intro i acc hi hY
      have h1 : 0 ≤ lg_cmp (lN i) (lN (16 ^ e)) := (lN_cmp (by omega) (by omega)).mpr (by omega)
      refine gm_run1 hC [13] 200 13 ?_
      exact gx_t h1 hY
    | succ m ih =>
      intro i acc hi hY
      have h1 : ¬ 0 ≤ lg_cmp (lN i) (lN (16 ^ e)) := fun z => by
        have := (lN_cmp (by omega) (by omega)).mp z
        omega
      have ho := s_occupiedBy (A := A) (F := F) (nw := nw) (nx := nx) (LO := LO) (DO := DO) (d := d + 1) (n := e) (w := i) (by omega) he
      have hq := s_allHold (A := A) (F := F) (nw := nw) (nx := nx) (LO := LO) (DO := DO) (d := d) hF hn (sOcc (nI i) e 0 0)
      have hq : gm_Sp gm_MT (d + 2) 4016 [.ref 18, .int (sOcc (nI i) e 0 0)] (gw A F nw nx LO DO) (.inl (some (.int (gB (cbQ (A 19) (A 20) n e i))))) (gw A F nw nx LO DO) 0 0 := hq
      have h9 := ih (i + 1) _ (by omega) hY
      rw [show lN (i + 1) = lN i + 1 from (lN_add i 1).symm] at h9
      clear ih hY
      cases hqq : cbQ (A 19) (A 20) n e i with
      | false =>
        rw [hqq] at hq h9
        rw [if_neg (by decide)] at h9
        refine gm_run1 hC [13] 200 13 ?_
        exact gx_f h1 (Or.inl ⟨_, _, _, _, ho, Or.inl ⟨_, _, _, _, hq, gx_t (show (0 : Int32) = 0 from rfl) h9⟩⟩)
      | true =>
        rw [hqq] at hq h9
        rw [if_pos rfl] at h9
        refine gm_run1 hC [13] 200 13 ?_
        exact gx_f h1 (Or.inl ⟨_, _, _, _, ho, Or.inl ⟨_, _, _, _, hq, gx_f (show ¬ (1 : Int32) = 0 from by decide) h9⟩⟩)
  refine gm_runs hC [13] 200 _ _ _ _ _ _ ?_
  exact Or.inl ⟨_, _, _, _, hp, loop (16 ^ e) 0 0 (by omega) hX⟩
end X