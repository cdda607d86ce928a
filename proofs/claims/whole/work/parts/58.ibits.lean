/-! BITS of numbers -/
def iB (x : Int32) (r : Nat) : Bool := x.toBitVec.getLsbD r
theorem iB_and (x y : Int32) (r : Nat) : iB (x &&& y) r = (iB x r && iB y r) := by
  unfold iB
  rw [Int32.toBitVec_and, BitVec.getLsbD_and]
theorem iB_or (x y : Int32) (r : Nat) : iB (x ||| y) r = (iB x r || iB y r) := by
  unfold iB
  rw [Int32.toBitVec_or, BitVec.getLsbD_or]
theorem iB_xor (x y : Int32) (r : Nat) : iB (x ^^^ y) r = ((iB x r) ^^ (iB y r)) := by
  unfold iB
  rw [Int32.toBitVec_xor, BitVec.getLsbD_xor]
theorem iB_m1 {r : Nat} (h : r < 32) : iB (-1) r = true := by
  unfold iB
  rw [show (-1 : Int32).toBitVec = BitVec.allOnes 32 from by decide, BitVec.getLsbD_allOnes]
  exact decide_eq_true h
theorem iB_0 (r : Nat) : iB 0 r = false := by
  unfold iB
  rw [show (0 : Int32).toBitVec = 0#32 from by decide, BitVec.getLsbD_zero]
theorem iB_not (x : Int32) {r : Nat} (h : r < 32) : iB (x ^^^ (-1)) r = !(iB x r) := by
  rw [iB_xor, iB_m1 h, Bool.xor_true]
theorem iB_ext {x y : Int32} (h : ∀ r, r < 32 → iB x r = iB y r) : x = y := by
  refine Int32.toBitVec_inj.mp (BitVec.eq_of_getLsbD_eq (fun r hr => h r hr))
theorem iB_nI (n : Nat) {r : Nat} (h : r < 32) : iB (nI n) r = n.testBit r := by
  unfold iB nI
  rw [Int32.toBitVec_ofNat', BitVec.getLsbD_ofNat, decide_eq_true h, Bool.true_and]
theorem iB_eq0 (x : Int32) : x = 0 ↔ ∀ r, r < 32 → iB x r = false := by
  constructor
  · intro h r _
    rw [h, iB_0]
  · intro h
    refine iB_ext (fun r hr => ?_)
    rw [h r hr, iB_0]
/-- one set of bits inside another -/
theorem iB_sub (x y : Int32) : x &&& (y ^^^ (-1)) = 0 ↔ ∀ r, r < 32 → iB x r = true → iB y r = true := by
  rw [iB_eq0]
  constructor
  · intro h r hr hx
    have := h r hr
    rw [iB_and, iB_not _ hr, hx, Bool.true_and] at this
    cases hy : iB y r with
    | true => rfl
    | false => rw [hy] at this; cases this
  · intro h r hr
    rw [iB_and, iB_not _ hr]
    cases hx : iB x r with
    | true => rw [h r hr hx]; rfl
    | false => rfl
theorem iB_meet (x y : Int32) : ¬ x &&& y = 0 ↔ ∃ r, r < 32 ∧ iB x r = true ∧ iB y r = true := by
  rw [iB_eq0]
  constructor
  · intro h
    apply Decidable.byContradiction
    intro h2
    refine h (fun r hr => ?_)
    rw [iB_and]
    cases hx : iB x r with
    | false => rfl
    | true =>
      cases hy : iB y r with
      | false => rfl
      | true => exact absurd ⟨r, hr, hx, hy⟩ h2
  · rintro ⟨r, hr, hx, hy⟩ h
    have := h r hr
    rw [iB_and, hx, hy] at this
    cases this
theorem iB_shr : ∀ r, r < 32 → ((nI r &&& 31).toBitVec.smod 32).toNat = r := by decide +kernel
theorem tb1 : ∀ k, k < 32 → Nat.testBit 1 k = decide (k = 0) := by decide +kernel
theorem sIn_iB {r : Nat} (h : r < 32) (x : Int32) : sIn (nI r) x = iB x r := by
  have e : ∀ k, k < 32 → iB ((x >>> (nI r &&& 31)) &&& 1) k = (decide (k = 0) && iB x r) := by
    intro k hk
    rw [iB_and, show (1 : Int32) = nI 1 from rfl, iB_nI 1 hk]
    by_cases hk0 : k = 0
    · subst hk0
      rw [show Nat.testBit 1 0 = true from rfl, Bool.and_true, decide_eq_true rfl, Bool.true_and]
      unfold iB
      rw [Int32.toBitVec_shiftRight]
      unfold BitVec.sshiftRight'
      rw [iB_shr r h, BitVec.getLsbD_sshiftRight]
      simp [h]
    · rw [decide_eq_false hk0, Bool.false_and, show Nat.testBit 1 k = false from (tb1 k hk).trans (decide_eq_false hk0), Bool.and_false]
  unfold sIn
  cases hb : iB x r with
  | true =>
    refine decide_eq_true (iB_ext (fun k hk => ?_))
    rw [e k hk, hb, Bool.and_true, show (1 : Int32) = nI 1 from rfl, iB_nI 1 hk, tb1 k hk]
  | false =>
    refine decide_eq_false (fun z => ?_)
    have := e 0 (by decide)
    rw [z, hb, Bool.and_false, show (1 : Int32) = nI 1 from rfl, iB_nI 1 (by decide)] at this
    cases this
theorem iB_shl : ∀ k, k < 32 → ∀ r, r < 32 → iB ((1 : Int32) <<< (nI k &&& 31)) r = decide (r = k) := by decide +kernel
/-- an inclusion of small numbers, by their own bits -/
theorem iB_nsub {a b : Nat} (ha : a < 65536) (h : a &&& b = a) : nI a &&& (nI b ^^^ (-1)) = 0 := by
  rw [iB_sub]
  intro r hr hx
  rw [iB_nI _ hr] at hx ⊢
  rw [← h, Nat.testBit_and, Bool.and_eq_true] at hx
  exact hx.2
theorem iB_nsub2 {a b : Nat} (ha : a < 65536) (h : nI a &&& (nI b ^^^ (-1)) = 0) : a &&& b = a := by
  rw [iB_sub] at h
  refine Nat.eq_of_testBit_eq (fun r => ?_)
  rw [Nat.testBit_and]
  by_cases hr : r < 32
  · have := h r hr
    rw [iB_nI _ hr, iB_nI _ hr] at this
    cases hx : a.testBit r with
    | true => rw [this hx]; rfl
    | false => rfl
  · rw [Nat.testBit_lt_two_pow (x := a) (i := r) (Nat.lt_of_lt_of_le ha (Nat.le_trans (show 65536 ≤ 2 ^ 32 by decide) (Nat.pow_le_pow_right (by decide) (by omega))))]
    rfl