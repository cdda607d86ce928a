/-! THE WORLD: the prover's cells, the reference's, the law's two rows -/
def gw (A : Nat → Nat → Int32) (F : Nat → Int32) (nw nx : Nat) (LO : Nat → Int64) (DO : Nat → UInt64) : pH :=
  [.inr (6, [.ref 1, .ref 7, .ref 14, .ref 18, .ref 21]),
   .inr (4, [.ref 2, .ref 3, .ref 4, .ref 5, .ref 6, .int (F 0)]), .inl (1, 120, .inl (A 2)), .inl (0, 120, .inl (A 3)), .inl (0, 120, .inl (A 4)), .inl (0, 120, .inl (A 5)), .inl (0, 120, .inl (A 6)),
   .inr (1, [.ref nw, .ref nx, .int (F 1), .int (F 2)]),
   .inr (5, [.ref 9, .ref 10, .int (F 3), .int (F 4)]), .inl (1, 81, .inl (A 9)), .inl (0, 81, .inl (A 10)),
   .inr (5, [.ref 12, .ref 13, .int (F 5), .int (F 6)]), .inl (1, 81, .inl (A 12)), .inl (0, 81, .inl (A 13)),
   .inr (0, [.ref 15, .ref 16, .ref 17]), .inl (0, 81, .inl (A 15)), .inl (2, 81, .inl (A 16)), .inl (2, 81, .inl (A 17)),
   .inr (3, [.ref 19, .ref 20, .int (F 7), .int (F 8), .int (F 9), .int (F 10)]), .inl (2, 6, .inl (A 19)), .inl (0, 6, .inl (A 20)),
   .inr (2, [.ref 22, .ref 23, .int (F 11)]), .inl (0, 16, .inl (A 22)), .inl (0, 2176, .inl (A 23)),
   .inr (7, [.int (F 20), .int (F 21), .int (F 22), .int (F 23), .int (F 24), .int (F 25), .int (F 26), .ref 25, .ref 26, .ref 27, .ref 28, .ref 29, .ref 30, .ref 31, .ref 32, .int (F 27), .int (F 28), .int (F 29), .ref 33, .ref 34, .ref 35, .ref 36, .int (F 30)]),
   .inl (0, 120, .inl (A 25)), .inl (0, 120, .inl (A 26)), .inl (0, 120, .inl (A 27)), .inl (0, 120, .inl (A 28)), .inl (0, 120, .inl (A 29)),
   .inl (0, 6, .inl (A 30)), .inl (0, 6, .inl (A 31)), .inl (0, 6, .inl (A 32)), .inl (0, 160, .inl (A 33)), .inl (0, 160, .inl (A 34)), .inl (0, 8, .inl (A 35)), .inl (0, 8, .inl (A 36)),
   .inl (3, 1, .inr (.inl LO)), .inl (4, 1, .inr (.inr (.inr (.inl DO))))]
theorem gm_mk {mid d : Nat} (M : pM) {av : List Value} {h : pH} {o : pO} {h1 : pH} {c s : Nat} (hM : gm_MT mid = some M) (hsd : gm_sd M av h o h1) (hrun : ∀ (G : pG) (X : pX), gm_cl M gm_tyf none (gm_Sp gm_MT d) G X → X o h1 c s → G 0 (gm_args M.2.2.2.1 av) [] h 0 0) : gm_Sp gm_MT (d + 1) mid av h o h1 c s := ⟨M, hM, hsd, hrun⟩
/-- an end that is the one wanted -/
theorem gx_i {X : pX} {v r : Int32} {h h2 : pH} {c s : Nat} (hX : X (.inl (some (.int r))) h2 c s) (hv : v = r) (hh : h = h2) : X (.inl (some (.int v))) h c s := by
  subst hv; subst hh; exact hX
theorem gx_z {X : pX} {v r : Int32} {h h2 : pH} {c s : Nat} (hX : X (.inl (some (.int r))) h2 c s) (hr : r = 0 ∨ r = 1) (hv : v = r) (hh : h = h2) : (v = 0 ∨ v = 1) ∧ X (.inl (some (.int v))) h c s := by
  subst hv; subst hh; exact ⟨hr, hX⟩
theorem gx_c {X : pX} {v r : Int32} {h h2 : pH} {c s : Nat} (hX : X (.inl (some (.int r))) h2 c s) (hr : 0 ≤ r ∧ r ≤ 65535) (hv : v = r) (hh : h = h2) : (0 ≤ v ∧ v ≤ 65535) ∧ X (.inl (some (.int v))) h c s := by
  subst hv; subst hh; exact ⟨hr, hX⟩
/-- a truth value as the machine has it -/
def gB (b : Bool) : Int32 := if b then 1 else 0
theorem gB_01 (b : Bool) : gB b = 0 ∨ gB b = 1 := by cases b <;> simp [gB]
theorem gB_t : gB true = 1 := rfl
theorem gB_f : gB false = 0 := rfl
theorem gB_eq0 {b : Bool} : gB b = 0 ↔ b = false := by cases b <;> simp [gB]
theorem gB_eq1 {b : Bool} : gB b = 1 ↔ b = true := by cases b <;> simp [gB]
/-- the term that a number tells, of n -/
def gT (n : Nat) (t : Int32) : Option Nat := if 0 ≤ t.toInt ∧ t.toInt < n then some t.toInt.toNat else none
theorem gT_nI {n j : Nat} (hj : j < n) (hn : n ≤ 120) : gT n (nI j) = some j := by
  unfold gT
  rw [nI_toInt (by omega)]
  rw [if_pos (by omega)]
  simp
theorem gT_cases {n : Nat} (t : Int32) (hn : n ≤ 120) : (∃ j, j < n ∧ t = nI j ∧ gT n t = some j) ∨ (gT n t = none ∧ (t < 0 ∨ nI n ≤ t)) := by
  rcases pk_ix t (n := n) (by omega) with h | h | ⟨j, hj, rfl⟩
  · refine Or.inr ⟨?_, Or.inl h⟩
    unfold gT
    rw [Int32.lt_iff_toInt_lt] at h
    simp at h
    rw [if_neg (by omega)]
  · refine Or.inr ⟨?_, Or.inr h⟩
    unfold gT
    rw [Int32.le_iff_toInt_le, nI_toInt (by omega)] at h
    rw [if_neg (by omega)]
  · exact Or.inl ⟨j, hj, rfl, gT_nI hj hn⟩
/-- a field of a term, or another value -/
def gO (S : Nat → Int32) (o : Option Nat) (z : Int32) : Int32 := match o with
  | some j => S j
  | none => z
def gOI (o : Option Nat) : Int32 := match o with
  | some j => nI j
  | none => -1
