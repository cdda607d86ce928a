/-! THE LEAST COUNTEREXAMPLE: fewest by sets, by choosing, by trying -/
/-- without what a region meets -/
def iX (S x : Int32) : Int32 := S &&& (x ^^^ (-1))
theorem iX_B (S x : Int32) {j : Nat} (hj : j < 32) : iB (iX S x) j = (iB S j && !(iB x j)) := by
  unfold iX
  rw [iB_and, iB_not _ hj]
theorem iX_0 (x : Int32) : iX 0 x = 0 := by
  refine iB_ext (fun j hj => ?_)
  rw [iX_B _ _ hj, iB_0, Bool.false_and]
theorem iX_comm (S x y : Int32) : iX (iX S x) y = iX (iX S y) x := by
  refine iB_ext (fun j hj => ?_)
  rw [iX_B _ _ hj, iX_B _ _ hj, iX_B _ _ hj, iX_B _ _ hj]
  cases iB S j <;> cases iB x j <;> cases iB y j <;> rfl
theorem iX_idem (S x : Int32) : iX (iX S x) x = iX S x := by
  refine iB_ext (fun j hj => ?_)
  rw [iX_B _ _ hj, iX_B _ _ hj]
  cases iB S j <;> cases iB x j <;> rfl
def fN (M : Nat → Int32) : Nat → Int32 → Nat
  | 0, S => if S = 0 then 0 else 100
  | m + 1, S => min (fN M m S) (1 + fN M m (iX S (M (15 - m))))
theorem fN_0 (M : Nat → Int32) : ∀ m, fN M m 0 = 0
  | 0 => if_pos rfl
  | m + 1 => by
    unfold fN
    rw [fN_0 M m]
    exact Nat.min_eq_left (Nat.zero_le _)
theorem fN_z {M : Nat → Int32} : ∀ {m : Nat} {S : Int32}, fN M m S = 0 → S = 0
  | 0, S, h => by
    unfold fN at h
    by_cases c : S = 0
    · exact c
    · rw [if_neg c] at h; cases h
  | m + 1, S, h => by
    unfold fN at h
    have : fN M m S = 0 := by omega
    exact fN_z this
theorem fN_sub (M : Nat → Int32) : ∀ (m : Nat) (S x : Int32), fN M m (iX S x) ≤ fN M m S
  | 0, S, x => by
    unfold fN
    by_cases c : S = 0
    · rw [c, iX_0, if_pos rfl]
      exact Nat.zero_le _
    · rw [if_neg c]
      split <;> omega
  | m + 1, S, x => by
    unfold fN
    have h1 := fN_sub M m S x
    have h2 := fN_sub M m (iX S (M (15 - m))) x
    rw [iX_comm] at h2
    omega
theorem fN_le1 (M : Nat → Int32) : ∀ (m : Nat) (S : Int32) (r : Nat), 16 - m ≤ r → r < 16 → m ≤ 16 → fN M m S ≤ 1 + fN M m (iX S (M r))
  | 0, S, r, h1, h2, _ => by omega
  | m + 1, S, r, h1, h2, h3 => by
    unfold fN
    by_cases e : r = 15 - m
    · rw [← e, iX_idem]
      omega
    · have g1 := fN_le1 M m S r (by omega) h2 (by omega)
      have g2 := fN_le1 M m (iX S (M (15 - m))) r (by omega) h2 (by omega)
      rw [iX_comm] at g2
      omega
theorem fN_meet {M : Nat → Int32} {j : Nat} (hj : j < 32) : ∀ (m : Nat) (S : Int32), m ≤ 16 → iB S j = true → fN M m S < 100 → ∃ r, r < 16 ∧ iB (M r) j = true ∧ fN M m (iX S (M r)) + 1 ≤ fN M m S
  | 0, S, _, hS, hf => by
    unfold fN at hf
    by_cases c : S = 0
    · rw [c, iB_0] at hS; cases hS
    · rw [if_neg c] at hf; omega
  | m + 1, S, hm, hS, hf => by
    unfold fN at hf ⊢
    by_cases c : fN M m S ≤ 1 + fN M m (iX S (M (15 - m)))
    · obtain ⟨r, h1, h2, h3⟩ := fN_meet (M := M) hj m S (by omega) hS (by omega)
      exact ⟨r, h1, h2, by omega⟩
    · cases hb : iB (M (15 - m)) j with
      | true => exact ⟨15 - m, by omega, hb, by omega⟩
      | false =>
        obtain ⟨r, h1, h2, h3⟩ := fN_meet (M := M) hj m (iX S (M (15 - m))) (by omega) (by rw [iX_B _ _ hj, hS, hb]; rfl) (by omega)
        rw [iX_comm] at h3
        exact ⟨r, h1, h2, by omega⟩
theorem fN_few {M : Nat → Int32} : ∀ (q : Nat) (S : Int32), (∀ j, j < 32 → q ≤ j → iB S j = false) → (∀ j, j < 32 → iB S j = true → ∃ r, r < 16 ∧ iB (M r) j = true) → fN M 16 S ≤ q
  | 0, S, h, _ => by
    have : S = 0 := (iB_eq0 S).mpr (fun j hj => h j hj (Nat.zero_le _))
    rw [this, fN_0]
    exact Nat.le_refl _
  | q + 1, S, h, hm => by
    by_cases c : q < 32 ∧ iB S q = true
    · obtain ⟨r, hr, hb⟩ := hm q c.1 c.2
      have g := fN_le1 M 16 S r (by omega) hr (by omega)
      have g2 := fN_few q (iX S (M r)) (fun j hj hq => by
        rw [iX_B _ _ hj]
        by_cases e : j = q
        · rw [e, hb]; simp
        · rw [h j hj (by omega)]; rfl) (fun j hj hb2 => hm j hj (by
        rw [iX_B _ _ hj, Bool.and_eq_true] at hb2
        exact hb2.1))
      omega
    · have := fN_few q S (fun j hj hq => by
        by_cases e : j = q
        · cases hb : iB S j with
          | false => rfl
          | true => exact absurd ⟨by omega, by rw [← e]; exact hb⟩ c
        · exact h j hj (by omega)) hm
      omega
/-- choosing so many regions more, the first choice that meets all -/
def gch (M : Nat → Int32) (inn : Int32) : Nat → Nat → Int32 → Option (List Nat)
  | 0, 0, S => if S = 0 then some [] else none
  | 0, _ + 1, _ => none
  | _ + 1, 0, S => if S = 0 then some [] else none
  | m + 1, k + 1, S => if iB inn (15 - m) = true then (match gch M inn m k (iX S (M (15 - m))) with
    | some l => some ((15 - m) :: l)
    | none => gch M inn m (k + 1) S) else gch M inn m (k + 1) S
theorem gch_z (M : Nat → Int32) (inn : Int32) (m : Nat) (S : Int32) : gch M inn m 0 S = if S = 0 then some [] else none := by cases m <;> rfl
theorem gch_s1 {M : Nat → Int32} {inn : Int32} {m k : Nat} {S : Int32} (h : ¬ iB inn (15 - m) = true) : gch M inn (m + 1) (k + 1) S = gch M inn m (k + 1) S := if_neg h
theorem gch_s2 {M : Nat → Int32} {inn : Int32} {m k : Nat} {S : Int32} {l : List Nat} (h : iB inn (15 - m) = true) (h2 : gch M inn m k (iX S (M (15 - m))) = some l) : gch M inn (m + 1) (k + 1) S = some ((15 - m) :: l) := by
  have : gch M inn (m + 1) (k + 1) S = _ := if_pos h
  rw [this, h2]
theorem gch_s3 {M : Nat → Int32} {inn : Int32} {m k : Nat} {S : Int32} (h : iB inn (15 - m) = true) (h2 : gch M inn m k (iX S (M (15 - m))) = none) : gch M inn (m + 1) (k + 1) S = gch M inn m (k + 1) S := by
  have : gch M inn (m + 1) (k + 1) S = _ := if_pos h
  rw [this, h2]
theorem gch_le {M : Nat → Int32} {inn : Int32} : ∀ (m k : Nat) (S : Int32) (l : List Nat), gch M inn m k S = some l → fN M m S ≤ k ∧ l.length = k
  | m, 0, S, l, h => by
    rw [gch_z] at h
    by_cases c : S = 0
    · rw [if_pos c] at h
      cases h
      rw [c, fN_0]
      exact ⟨Nat.le_refl _, rfl⟩
    · rw [if_neg c] at h; cases h
  | 0, k + 1, S, l, h => by cases h
  | m + 1, k + 1, S, l, h => by
    unfold fN
    by_cases c : iB inn (15 - m) = true
    · cases hq : gch M inn m k (iX S (M (15 - m))) with
      | some l2 =>
        rw [gch_s2 c hq] at h
        cases h
        have := gch_le m k _ l2 hq
        exact ⟨by omega, by rw [List.length_cons]; omega⟩
      | none =>
        rw [gch_s3 c hq] at h
        have := gch_le m (k + 1) _ l h
        exact ⟨by omega, this.2⟩
    · rw [gch_s1 c] at h
      have := gch_le m (k + 1) _ l h
      exact ⟨by omega, this.2⟩
/-- the regions that the table leads to -/
def pkL (M : Nat → Int32) : Nat → Int32 → List Nat
  | 0, _ => []
  | m + 1, S => if ¬ iX S (M (15 - m)) = S ∧ fN M m (iX S (M (15 - m))) + 1 = fN M (m + 1) S then (15 - m) :: pkL M m (iX S (M (15 - m))) else pkL M m S
theorem pkL_0 (M : Nat → Int32) : ∀ m, pkL M m 0 = []
  | 0 => rfl
  | m + 1 => by
    unfold pkL
    rw [if_neg (fun z => z.1 (iX_0 _))]
    exact pkL_0 M m
theorem gch_pk {M : Nat → Int32} {inn : Int32} (hin : ∀ r, r < 16 → ¬ iB inn r = true → ∀ S, iX S (M r) = S) : ∀ (m k : Nat) (S : Int32), m ≤ 16 → k < 100 → fN M m S = k → gch M inn m k S = some (pkL M m S)
  | m, 0, S, _, _, h => by
    have c := fN_z h
    rw [gch_z, c, if_pos rfl, pkL_0]
  | 0, k + 1, S, _, hk, h => by
    unfold fN at h
    by_cases c : S = 0
    · rw [if_pos c] at h; cases h
    · rw [if_neg c] at h; omega
  | m + 1, k + 1, S, hm, hk, h => by
    have h' := h
    unfold fN at h
    unfold pkL
    rw [h']
    by_cases c : iB inn (15 - m) = true
    · by_cases e : fN M m (iX S (M (15 - m))) = k
      · have g := gch_pk hin m k (iX S (M (15 - m))) (by omega) (by omega) e
        rw [gch_s2 c g, if_pos]
        refine ⟨fun z => ?_, by omega⟩
        rw [z] at e
        rw [z] at h
        omega
      · have hne : gch M inn m k (iX S (M (15 - m))) = none := by
          cases hq : gch M inn m k (iX S (M (15 - m))) with
          | none => rfl
          | some l =>
            have := (gch_le m k _ l hq).1
            omega
        rw [gch_s3 c hne, if_neg (fun z => e (by omega))]
        exact gch_pk hin m (k + 1) S (by omega) hk (by omega)
    · have e := hin (15 - m) (by omega) c S
      rw [gch_s1 c, if_neg (fun z => z.1 e)]
      rw [e] at h
      exact gch_pk hin m (k + 1) S (by omega) hk (by omega)
theorem gch_less {M : Nat → Int32} {inn : Int32} {m k : Nat} {S : Int32} (h : k < fN M m S) : gch M inn m k S = none := by
  cases hq : gch M inn m k S with
  | none => rfl
  | some l =>
    have := (gch_le m k S l hq).1
    omega
/-- meeting by trying -/
def cmB (M : Nat → Int32) : Nat → Int32 → Bool
  | 0, S => decide (S = 0)
  | e + 1, S => decide (S = 0) || (sFst (fun r => decide (¬ M r &&& (S &&& -S) = 0) && cmB M e (iX S (M r))) 16 0).isSome
theorem sFst_isSome {p : Nat → Bool} {m i : Nat} : (sFst p m i).isSome = true ↔ ∃ j, i ≤ j ∧ j < i + m ∧ p j = true := by
  constructor
  · intro h
    obtain ⟨j, hj⟩ := Option.isSome_iff_exists.mp h
    exact ⟨j, sFst_lt hj⟩
  · rintro ⟨j, h1, h2, h3⟩
    cases hq : sFst p m i with
    | some _ => rfl
    | none =>
      rw [sFst_none.mp hq j h1 h2] at h3
      cases h3
theorem i_low : ∀ s, s < 128 → ¬ s = 0 → ¬ nI s &&& -(nI s) = 0 := by decide +kernel
theorem nI_and (s : Nat) (x : Int32) : nI s &&& x = nI (s &&& x.toBitVec.toNat) := by
  refine iB_ext (fun r hr => ?_)
  rw [iB_and, iB_nI _ hr, iB_nI _ hr, Nat.testBit_and]
  unfold iB
  rw [BitVec.testBit_toNat]
theorem iX_128 {s : Nat} (hs : s < 128) (x : Int32) : ∃ t, t < 128 ∧ iX (nI s) x = nI t := by
  unfold iX
  rw [nI_and]
  exact ⟨_, Nat.lt_of_le_of_lt Nat.and_le_left hs, rfl⟩
theorem cmB_fN {M : Nat → Int32} : ∀ (e s : Nat), s < 128 → e < 100 → cmB M e (nI s) = decide (fN M 16 (nI s) ≤ e)
  | 0, s, hs, _ => by
    unfold cmB
    refine decide_eq_decide.mpr ⟨fun h => by rw [h, fN_0]; exact Nat.le_refl _, fun h => fN_z (M := M) (m := 16) (Nat.le_zero.mp h)⟩
  | e + 1, s, hs, he => by
    unfold cmB
    by_cases c : nI s = 0
    · rw [decide_eq_true c, Bool.true_or, c, fN_0]
      exact (decide_eq_true (Nat.zero_le _)).symm
    · rw [decide_eq_false c, Bool.false_or, Bool.eq_iff_iff, sFst_isSome, decide_eq_true_iff]
      constructor
      · rintro ⟨r, -, hr, h⟩
        rw [Bool.and_eq_true] at h
        obtain ⟨t, ht, et⟩ := iX_128 hs (M r)
        have h2 := h.2
        rw [et, cmB_fN e t ht (by omega), decide_eq_true_iff, ← et] at h2
        have := fN_le1 M 16 (nI s) r (by omega) (by omega) (by omega)
        omega
      · intro h
        have s0 : ¬ s = 0 := fun z => c (by rw [z]; rfl)
        have hl := i_low s hs s0
        rw [iB_meet] at hl
        obtain ⟨j, hj, h1, h2⟩ := hl
        obtain ⟨r, hr, hb, hle⟩ := fN_meet (M := M) hj 16 (nI s) (by omega) h1 (by omega)
        refine ⟨r, Nat.zero_le _, by omega, ?_⟩
        obtain ⟨t, ht, et⟩ := iX_128 hs (M r)
        rw [Bool.and_eq_true, et, cmB_fN e t ht (by omega), decide_eq_true_iff, decide_eq_true_iff, ← et]
        refine ⟨?_, by omega⟩
        rw [iB_meet]
        exact ⟨j, hj, hb, by rw [iB_and, h1, h2]; rfl⟩