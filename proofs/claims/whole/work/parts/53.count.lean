/-! COUNTING MODELS, the prover's two ways -/
/-- a sum over a run of numbers, of those that are wanted -/
def lSum (q : Nat → Bool) (v : Nat → Int64) : Nat → Nat → Int64 → Int64
  | 0, _, acc => acc
  | m + 1, i, acc => lSum q v m (i + 1) (if q i = true then acc + v i else acc)
/-- the sets of demands, and what each adds -/
def cmQ (D : Nat → Int32) (n i : Nat) : Bool := sEv (fun j => !(sIn (nI j) (nI i)) || decide (¬ D j = 0)) n 0
def cmV (P : Nat → Int32) (n e : Nat) (free : Int32) (i : Nat) : Int64 := if bcF (nI i) - bcF (nI i) / 2 * 2 = 0 then lPow (bcF (free &&& (sUn P (nI i) n 0 0 ^^^ (-1)))) e 1 else - lPow (bcF (free &&& (sUn P (nI i) n 0 0 ^^^ (-1)))) e 1
theorem nI_shl6 : ∀ n, n < 7 → (1 : Int32) <<< (nI n &&& 31) = nI (2 ^ n) := by decide +kernel
section X
variable {nw nx : Nat} {LO : Nat → Int64} {DO : Nat → UInt64} {d n : Nat} {A : Nat → Nat → Int32} {F : Nat → Int32}
theorem s_countModels (hF : F 7 = nI n) (hn : n ≤ 6) {e : Nat} (he : e < 2 ^ 31) : gm_Sp gm_MT (d + 3) 4017 [.ref 18, .int (nI e)] (gw A F nw nx LO DO) (.inl (some (.long (lSum (cmQ (A 19) n) (cmV (A 20) n e (sAl (A 19) (A 20) n 0 65535)) (2 ^ n) 0 0)))) (gw A F nw nx LO DO) 0 0 := by
  refine gm_mk gm_mX3_countModels rfl ⟨Or.inr rfl, rfl, rfl, trivial⟩ (fun G X hC hX => ?_)
  have ha := s_allowed (A := A) (F := F) (nw := nw) (nx := nx) (LO := LO) (DO := DO) (d := d) hF hn
  generalize hfree : sAl (A 19) (A 20) n 0 65535 = free at ha hX
  have h2n : 2 ^ n ≤ 64 := Nat.le_trans (Nat.pow_le_pow_right (by decide) hn) (by decide)
  have hsh : (1 : Int32) <<< (F 7 &&& 31) = nI (2 ^ n) := by rw [hF]; exact nI_shl6 n (by omega)
  have loop : ∀ (m i : Nat) (acc : Int64) (o : Option Value), (o = none ∨ ∃ u, o = some (.long u)) → i + m = 2 ^ n → X (.inl (some (.long (lSum (cmQ (A 19) n) (cmV (A 20) n e free) m i acc)))) (gw A F nw nx LO DO) 0 0 → G 10 [some (.ref 18), some (.int (nI e)), some (.int free), some (.long acc), none, some (.int (nI i)), o, none] [] (gw A F nw nx LO DO) 0 0 := by
    intro m
    induction m with
    | zero =>
      intro i acc o ho hi hY
      have hi : i = 2 ^ n := by omega
      have h1 : (1 : Int32) <<< (F 7 &&& 31) ≤ nI i := by rw [hsh, hi]; exact Int32.le_refl _
      rcases ho with rfl | ⟨u, rfl⟩
      all_goals
        refine gm_run1 hC [10] 200 10 ?_
        exact gx_t h1 hY
    | succ m ih =>
      intro i acc o ho hi hY
      have h1 : ¬ (1 : Int32) <<< (F 7 &&& 31) ≤ nI i := by rw [hsh]; exact nI_ge (by omega) (by omega)
      have hq := s_isSetOfDemands (A := A) (F := F) (nw := nw) (nx := nx) (LO := LO) (DO := DO) (d := d) hF hn (nI i)
      have hu := s_placesOfSet (A := A) (F := F) (nw := nw) (nx := nx) (LO := LO) (DO := DO) (d := d) hF hn (nI i)
      have hb := s_bitCount (A := A) (F := F) (nw := nw) (nx := nx) (LO := LO) (DO := DO) (d := d + 1) (free &&& (sUn (A 20) (nI i) n 0 0 ^^^ (-1)))
      have hb2 := s_bitCount (A := A) (F := F) (nw := nw) (nx := nx) (LO := LO) (DO := DO) (d := d + 1) (nI i)
      have hp := s_power3 (A := A) (F := F) (nw := nw) (nx := nx) (LO := LO) (DO := DO) (d := d + 1) (bcF (free &&& (sUn (A 20) (nI i) n 0 0 ^^^ (-1)))) he
      have nxt : ∀ o, (o = none ∨ ∃ u, o = some (.long u)) → G 10 [some (.ref 18), some (.int (nI e)), some (.int free), some (.long (if cmQ (A 19) n i = true then acc + cmV (A 20) n e free i else acc)), none, some (.int (nI i + 1)), o, none] [] (gw A F nw nx LO DO) 0 0 := fun o ho => by
        rw [nI_1]
        exact ih (i + 1) _ o ho (by omega) hY
      clear ih hY
      have hq : gm_Sp gm_MT (d + 2) 4018 [.ref 18, .int (nI i)] (gw A F nw nx LO DO) (.inl (some (.int (gB (cmQ (A 19) n i))))) (gw A F nw nx LO DO) 0 0 := hq
      cases hqq : cmQ (A 19) n i with
      | false =>
        rw [hqq] at hq nxt
        have nxt := nxt o ho
        rw [if_neg (by decide)] at nxt
        rcases ho with rfl | ⟨u, rfl⟩
        all_goals
          refine gm_run1 hC [10] 200 10 ?_
          exact gx_f h1 (Or.inl ⟨_, _, _, _, hq, gx_t (show (0 : Int32) = 0 from rfl) nxt⟩)
      | true =>
        rw [hqq] at hq nxt
        have nxt := nxt (some (.long (lPow (bcF (free &&& (sUn (A 20) (nI i) n 0 0 ^^^ (-1)))) e 1))) (Or.inr ⟨_, rfl⟩)
        rw [if_pos rfl] at nxt
        unfold cmV at nxt
        by_cases c : bcF (nI i) - bcF (nI i) / 2 * 2 = 0
        · rw [if_pos c] at nxt
          rcases ho with rfl | ⟨u, rfl⟩
          all_goals
            refine gm_run1 hC [10] 200 10 ?_
            exact gx_f h1 (Or.inl ⟨_, _, _, _, hq, gx_f (show ¬ (1 : Int32) = 0 from by decide) (Or.inl ⟨_, _, _, _, hu, Or.inl ⟨_, _, _, _, hb, Or.inl ⟨_, _, _, _, hp, Or.inl ⟨_, _, _, _, hb2, And.intro (by decide) (gx_f (show ¬ ¬ bcF (nI i) - bcF (nI i) / 2 * 2 = 0 from fun z => z c) nxt)⟩⟩⟩⟩)⟩)
        · rw [if_neg c] at nxt
          rcases ho with rfl | ⟨u, rfl⟩
          all_goals
            refine gm_run1 hC [10] 200 10 ?_
            exact gx_f h1 (Or.inl ⟨_, _, _, _, hq, gx_f (show ¬ (1 : Int32) = 0 from by decide) (Or.inl ⟨_, _, _, _, hu, Or.inl ⟨_, _, _, _, hb, Or.inl ⟨_, _, _, _, hp, Or.inl ⟨_, _, _, _, hb2, And.intro (by decide) (gx_t (show ¬ bcF (nI i) - bcF (nI i) / 2 * 2 = 0 from c) nxt)⟩⟩⟩⟩)⟩)
  refine gm_runs hC [10] 200 _ _ _ _ _ _ ?_
  exact Or.inl ⟨_, _, _, _, ha, loop (2 ^ n) 0 0 none (Or.inl rfl) (by omega) hX⟩
end X