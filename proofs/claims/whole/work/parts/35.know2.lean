/-! THE REFERENCE'S TABLE: know as a whole -/
/-- a triple that may be a term of n known ones -/
def gSh (n : Nat) (k l r : Int32) : Prop := gSg k ∧ ((tAr k = 0 ∧ l = -1 ∧ r = -1) ∨ (tAr k = 1 ∧ r = -1 ∧ ∃ a, a < n ∧ l = nI a) ∨ (tAr k = 2 ∧ ∃ a b, a < n ∧ b < n ∧ l = nI a ∧ r = nI b))
theorem gT_m1 (n : Nat) : gT n (-1) = none := by
  unfold gT
  rw [if_neg]
  intro h
  exact absurd h.1 (by decide)
/-- the reference's tables with a term more -/
def gknA (A : Nat → Nat → Int32) (i : Nat) (k l r sz cv : Int32) : Nat → Nat → Int32 := va_up (va_up (va_up (va_up (va_up A 25 (upd (A 25) i k)) 26 (upd (A 26) i l)) 27 (upd (A 27) i r)) 28 (upd (A 28) i sz)) 29 (upd (A 29) i cv)
def gknS (A : Nat → Nat → Int32) (n : Nat) (l r : Int32) : Int32 := 1 + gO (A 28) (gT n l) 0 + gO (A 28) (gT n r) 0
def gknC (A : Nat → Nat → Int32) (n : Nat) (k l r : Int32) : Int32 := gCov k (gO (A 29) (gT n l) 0) (gO (A 29) (gT n r) 0)
section X
variable {nw nx : Nat} {LO : Nat → Int64} {DO : Nat → UInt64} {d n : Nat} {A : Nat → Nat → Int32} {F : Nat → Int32}
theorem s_know1 {k l r : Int32} (hn : n ≤ 120) (hF : F 21 = nI n) {j : Nat} (hf : gFind (A 25) (A 26) (A 27) k l r n 0 = some j) : gm_Sp gm_MT (d + 3) 8008 [.ref 24, .int k, .int l, .int r] (gw A F nw nx LO DO) (.inl (some (.int (nI j)))) (gw A F nw nx LO DO) 0 0 := by
  refine gm_mk gm_mX7_know rfl ⟨Or.inr rfl, rfl, rfl, trivial⟩ (fun G X hC hX => ?_)
  refine gm_runs hC [3, 54] 200 _ _ _ _ _ _ ?_
  exact s_know_loop k l r hn hF G X hC n 0 (by omega) (fun i hi => by rw [hf] at hi; cases hi; exact hX) (fun hz => by rw [hf] at hz; cases hz)
theorem s_know2 {k l r : Int32} (hF : F 21 = nI 120) (hf : gFind (A 25) (A 26) (A 27) k l r 120 0 = none) : gm_Sp gm_MT (d + 3) 8008 [.ref 24, .int k, .int l, .int r] (gw A F nw nx LO DO) (.inl (some (.int (-1)))) (gw A F nw nx LO DO) 0 0 := by
  refine gm_mk gm_mX7_know rfl ⟨Or.inr rfl, rfl, rfl, trivial⟩ (fun G X hC hX => ?_)
  have w54 : G 54 [some (.ref 24), some (.int k), some (.int l), some (.int r), some (.int (nI 120))] [] (gw A F nw nx LO DO) 0 0 := by
    refine gm_run1 hC [3, 54] 200 54 ?_
    exact gx_f (show ¬ ¬ F 21 = nI 120 from fun z => z hF) (gx_i hX gm_m1 rfl)
  refine gm_runs hC [3, 54] 200 _ _ _ _ _ _ ?_
  exact s_know_loop k l r (by omega) hF G X hC 120 0 (by omega) (fun i hi => by rw [hf] at hi; cases hi) (fun _ => w54)
set_option maxRecDepth 4000 in
theorem s_know3 {k l r : Int32} (hn : n < 120) (hF : F 21 = nI n) (hf : gFind (A 25) (A 26) (A 27) k l r n 0 = none) (hsh : gSh n k l r) : gm_Sp gm_MT (d + 3) 8008 [.ref 24, .int k, .int l, .int r] (gw A F nw nx LO DO) (.inl (some (.int (nI n)))) (gw (gknA A n k l r (gknS A n l r) (gknC A n k l r)) (va_up F 21 (nI (n + 1))) nw nx LO DO) 0 0 := by
  refine gm_mk gm_mX7_know rfl ⟨Or.inr rfl, rfl, rfl, trivial⟩ (fun G X hC hX => ?_)
  have hcl : (F 21).toNatClampNeg = n := by rw [hF]; exact nI_clamp (by omega)
  have hin : vp_in (F 21) 120 := by rw [hF]; exact vp_in_nI (by omega) (by omega)
  have hne : ¬ F 21 = nI 120 := by
    rw [hF]
    intro z
    have := (nI_eq (by omega) (by omega)).mp z
    omega
  have e1 : nI (n + 1) = F 21 + gm_lit 1 := by rw [hF]; exact (nI_1 n).symm
  have eX : X (.inl (some (.int (F 21)))) (gw (gknA A (F 21).toNatClampNeg k l r (gknS A n l r) (gknC A n k l r)) (va_up F 21 (F 21 + gm_lit 1)) nw nx LO DO) 0 0 := by
    rw [hcl, ← e1, hF]
    exact hX
  clear hX
  have neg : (-1 : Int32) < 0 := by decide
  have w54 : G 54 [some (.ref 24), some (.int k), some (.int l), some (.int r), some (.int (nI n))] [] (gw A F nw nx LO DO) 0 0 := by
    obtain ⟨hk, hh⟩ := hsh
    unfold gknS gknC at eX
    let A1 := fun sz : Int32 => va_up (va_up (va_up (va_up A 25 (upd (A 25) (F 21).toNatClampNeg k)) 26 (upd (A 26) (F 21).toNatClampNeg l)) 27 (upd (A 27) (F 21).toNatClampNeg r)) 28 (upd (A 28) (F 21).toNatClampNeg sz)
    rcases hh with ⟨h0, hl, hr⟩ | ⟨h1, hr, a, ha, hl⟩ | ⟨h2, a, b, ha, hb, hl, hr⟩
    · have hc := s_covered0 (A := A1 (gm_lit 1 + gm_lit 0 + gm_lit 0)) (F := F) (nw := nw) (nx := nx) (LO := LO) (DO := DO) (d := d) (l := l) (r := r) hk h0
      rw [show gT n l = none by rw [hl]; exact gT_m1 n, show gT n r = none by rw [hr]; exact gT_m1 n] at eX
      refine gm_run1 hC [3, 54] 200 54 ?_
      exact gx_t hne (And.intro hin (And.intro hin (And.intro hin (gx_f (show ¬ (0 : Int32) ≤ l from by rw [hl]; decide) (gx_f (show ¬ (0 : Int32) ≤ r from by rw [hr]; decide) (And.intro hin (Or.inl ⟨_, _, _, _, hc, And.intro hin eX⟩)))))))
    · have hka : k = 67 := (tAr_one k).mp h1
      have hva := vp_in_nI (n := a) (N := 120) (by omega) (by omega)
      have hca : (nI a).toNatClampNeg = a := nI_clamp (by omega)
      have hc := s_covered1 (A := A1 (gm_lit 1 + A 28 (nI a).toNatClampNeg + gm_lit 0)) (F := F) (nw := nw) (nx := nx) (LO := LO) (DO := DO) (d := d) (r := r) (a := a) (by omega)
      rw [← hka, ← hl] at hc
      rw [show gT n l = some a by rw [hl]; exact gT_nI ha (by omega), show gT n r = none by rw [hr]; exact gT_m1 n] at eX
      have eX2 : X (.inl (some (.int (F 21)))) (gw (gknA A (F 21).toNatClampNeg k l r (1 + A 28 (nI a).toNatClampNeg + 0) (gCov k (A 29 a) 0)) (va_up F 21 (F 21 + gm_lit 1)) nw nx LO DO) 0 0 := by rw [hca]; exact eX
      rw [← hl] at eX2 hva
      refine gm_run1 hC [3, 54] 200 54 ?_
      exact gx_t hne (And.intro hin (And.intro hin (And.intro hin (gx_t (show (0 : Int32) ≤ l from by rw [hl]; exact nI_pos' (by omega)) (And.intro hva (gx_f (show ¬ (0 : Int32) ≤ r from by rw [hr]; decide) (And.intro hin (Or.inl ⟨_, _, _, _, hc, And.intro hin eX2⟩))))))))
    · have hva := vp_in_nI (n := a) (N := 120) (by omega) (by omega)
      have hca : (nI a).toNatClampNeg = a := nI_clamp (by omega)
      have hvb := vp_in_nI (n := b) (N := 120) (by omega) (by omega)
      have hcb : (nI b).toNatClampNeg = b := nI_clamp (by omega)
      have hc := s_covered2 (A := A1 (gm_lit 1 + A 28 (nI a).toNatClampNeg + A 28 (nI b).toNatClampNeg)) (F := F) (nw := nw) (nx := nx) (LO := LO) (DO := DO) (d := d) (a := a) (b := b) h2 (by omega) (by omega)
      rw [show gT n l = some a by rw [hl]; exact gT_nI ha (by omega), show gT n r = some b by rw [hr]; exact gT_nI hb (by omega)] at eX
      have eX2 : X (.inl (some (.int (F 21)))) (gw (gknA A (F 21).toNatClampNeg k l r (1 + A 28 (nI a).toNatClampNeg + A 28 (nI b).toNatClampNeg) (gCov k (A 29 a) (A 29 b))) (va_up F 21 (F 21 + gm_lit 1)) nw nx LO DO) 0 0 := by rw [hca, hcb]; exact eX
      rw [← hl, ← hr] at eX2 hc
      rw [← hl] at hva
      rw [← hr] at hvb
      refine gm_run1 hC [3, 54] 200 54 ?_
      exact gx_t hne (And.intro hin (And.intro hin (And.intro hin (gx_t (show (0 : Int32) ≤ l from by rw [hl]; exact nI_pos' (by omega)) (And.intro hva (gx_t (show (0 : Int32) ≤ r from by rw [hr]; exact nI_pos' (by omega)) (And.intro hvb (And.intro hin (Or.inl ⟨_, _, _, _, hc, And.intro hin eX2⟩)))))))))
  refine gm_runs hC [3, 54] 200 _ _ _ _ _ _ ?_
  exact s_know_loop k l r (by omega) hF G X hC n 0 (by omega) (fun i hi => by rw [hf] at hi; cases hi) (fun _ => w54)
end X