/-! HOW LONG REWRITING CAN GO ON: a measure of texts that each step makes smaller -/
/-- valid texts, as trees -/
theorem tV_ind {P : List Int32 → Prop} (h0 : ∀ k, tAr k = 0 → P [k]) (h1 : ∀ k a, tAr k = 1 → tV a → P a → P (k :: a)) (h2 : ∀ k a b, tAr k = 2 → tV a → tV b → P a → P b → P (k :: (a ++ b))) : ∀ (n : Nat) (l : List Int32), l.length ≤ n → tV l → P l := by
  intro n
  induction n with
  | zero =>
    intro l hl hv
    have : l = [] := List.length_eq_zero_iff.mp (by omega)
    subst this
    cases hv
  | succ n ih =>
    intro l hl hv
    cases l with
    | nil => cases hv
    | cons k x =>
      have hx : trun x (tAr k) = some 0 := by
        have h : trun x (0 + tAr k) = some 0 := hv
        rw [Nat.zero_add] at h
        exact h
      have hlx : x.length ≤ n := by
        simp only [List.length_cons] at hl
        omega
      rcases tAr_012 k with e | e | e
      · rw [e] at hx
        cases x with
        | nil => exact h0 k e
        | cons j y => cases hx
      · rw [e] at hx
        exact h1 k x e hx (ih x hlx hx)
      · rw [e] at hx
        obtain ⟨s1, s2, -⟩ := tlen_split (a := 1) (b := 1) hx
        have ex := List.take_append_drop (tlen x 1) x
        have l1 : (x.take (tlen x 1)).length ≤ n := by rw [List.length_take]; omega
        have l2 : (x.drop (tlen x 1)).length ≤ n := by rw [List.length_drop]; omega
        have := h2 k (x.take (tlen x 1)) (x.drop (tlen x 1)) e s1 s2 (ih _ l1 s1) (ih _ l2 s2)
        rw [ex] at this
        exact this
/-- what stands under complements, weighed by how many -/
def mC : List Int32 → List Nat → Nat
  | [], _ => 0
  | _ :: _, [] => 0
  | k :: l, c :: cs => if tAr k = 1 then 1 + mC l ((c + 1) :: cs) else if tAr k = 2 then (2 * (1 + c) + (if k = 68 then 2 else 0)) + mC l (c :: (if k = 68 then c + 1 else c) :: cs) else mC l cs
def mS : List Int32 → List Nat → List Nat
  | [], cs => cs
  | _ :: _, [] => []
  | k :: l, c :: cs => if tAr k = 1 then mS l ((c + 1) :: cs) else if tAr k = 2 then mS l (c :: (if k = 68 then c + 1 else c) :: cs) else mS l cs
theorem mC_nil (l : List Int32) : mC l [] = 0 := by cases l <;> rfl
theorem mS_nil (l : List Int32) : mS l [] = [] := by cases l <;> rfl
theorem mC_app : ∀ (a r : List Int32) (cs : List Nat), mC (a ++ r) cs = mC a cs + mC r (mS a cs)
  | [], r, cs => (Nat.zero_add _).symm
  | k :: a, r, [] => by rw [mC_nil, mC_nil, mS_nil, mC_nil]
  | k :: a, r, c :: cs => by
    show (if tAr k = 1 then 1 + mC (a ++ r) ((c + 1) :: cs) else if tAr k = 2 then (2 * (1 + c) + (if k = 68 then 2 else 0)) + mC (a ++ r) (c :: (if k = 68 then c + 1 else c) :: cs) else mC (a ++ r) cs) = (if tAr k = 1 then 1 + mC a ((c + 1) :: cs) else if tAr k = 2 then (2 * (1 + c) + (if k = 68 then 2 else 0)) + mC a (c :: (if k = 68 then c + 1 else c) :: cs) else mC a cs) + mC r (if tAr k = 1 then mS a ((c + 1) :: cs) else if tAr k = 2 then mS a (c :: (if k = 68 then c + 1 else c) :: cs) else mS a cs)
    by_cases h1 : tAr k = 1
    · rw [if_pos h1, if_pos h1, if_pos h1, mC_app a r ((c + 1) :: cs)]
      omega
    · rw [if_neg h1, if_neg h1, if_neg h1]
      by_cases h2 : tAr k = 2
      · rw [if_pos h2, if_pos h2, if_pos h2, mC_app a r _]
        omega
      · rw [if_neg h2, if_neg h2, if_neg h2]
        exact mC_app a r cs
theorem mS_len : ∀ (a : List Int32) (cs : List Nat) (m : Nat), trun a cs.length = some m → (mS a cs).length = m
  | [], cs, m, h => by
    simp only [trun, Option.some.injEq] at h
    exact h
  | k :: a, [], m, h => by cases h
  | k :: a, c :: cs, m, h => by
    have h : trun a (cs.length + tAr k) = some m := h
    show (if tAr k = 1 then mS a ((c + 1) :: cs) else if tAr k = 2 then mS a (c :: (if k = 68 then c + 1 else c) :: cs) else mS a cs).length = m
    by_cases h1 : tAr k = 1
    · rw [if_pos h1]
      rw [h1] at h
      exact mS_len a ((c + 1) :: cs) m h
    · rw [if_neg h1]
      by_cases h2 : tAr k = 2
      · rw [if_pos h2]
        rw [h2] at h
        exact mS_len a _ m h
      · rw [if_neg h2]
        have h0 : tAr k = 0 := by rcases tAr_012 k with e | e | e <;> omega
        rw [h0] at h
        exact mS_len a cs m h
/-- a whole term takes just the first of the stack -/
theorem mS_V {s : List Int32} : ∀ (m : Nat) (c1 cs : List Nat), trun s c1.length = some 0 → mS s (c1 ++ cs) = cs ∧ mC s (c1 ++ cs) = mC s c1 := by
  induction s with
  | nil =>
    intro m c1 cs h
    simp only [trun, Option.some.injEq] at h
    rw [List.length_eq_zero_iff.mp h]
    exact ⟨rfl, rfl⟩
  | cons k a ih =>
    intro m c1 cs h
    cases c1 with
    | nil => cases h
    | cons c c1 =>
      have h : trun a (c1.length + tAr k) = some 0 := h
      show (if tAr k = 1 then mS a ((c + 1) :: (c1 ++ cs)) else if tAr k = 2 then mS a (c :: (if k = 68 then c + 1 else c) :: (c1 ++ cs)) else mS a (c1 ++ cs)) = cs ∧ (if tAr k = 1 then 1 + mC a ((c + 1) :: (c1 ++ cs)) else if tAr k = 2 then (2 * (1 + c) + (if k = 68 then 2 else 0)) + mC a (c :: (if k = 68 then c + 1 else c) :: (c1 ++ cs)) else mC a (c1 ++ cs)) = (if tAr k = 1 then 1 + mC a ((c + 1) :: c1) else if tAr k = 2 then (2 * (1 + c) + (if k = 68 then 2 else 0)) + mC a (c :: (if k = 68 then c + 1 else c) :: c1) else mC a c1)
      by_cases h1 : tAr k = 1
      · rw [if_pos h1, if_pos h1, if_pos h1]
        rw [h1] at h
        have := ih m ((c + 1) :: c1) cs h
        exact ⟨this.1, by rw [← this.2]; rfl⟩
      · rw [if_neg h1, if_neg h1, if_neg h1]
        by_cases h2 : tAr k = 2
        · rw [if_pos h2, if_pos h2, if_pos h2]
          rw [h2] at h
          have := ih m (c :: (if k = 68 then c + 1 else c) :: c1) cs h
          exact ⟨this.1, by rw [← this.2]; rfl⟩
        · rw [if_neg h2, if_neg h2, if_neg h2]
          have h0 : tAr k = 0 := by rcases tAr_012 k with e | e | e <;> omega
          rw [h0] at h
          exact ih m c1 cs h
theorem mC_V {s : List Int32} (h : tV s) (r : List Int32) (c : Nat) (cs : List Nat) : mC (s ++ r) (c :: cs) = mC s [c] + mC r cs := by
  obtain ⟨e1, e2⟩ := mS_V (s := s) 0 [c] cs h
  rw [mC_app]
  have e1 : mS s (c :: cs) = cs := e1
  have e2 : mC s (c :: cs) = mC s [c] := e2
  rw [e1, e2]
theorem mC_1 {k : Int32} (h : tAr k = 1) (a : List Int32) (c : Nat) (cs : List Nat) : mC (k :: a) (c :: cs) = 1 + mC a ((c + 1) :: cs) := if_pos h
theorem mC_2 {k : Int32} (h : tAr k = 2) (a : List Int32) (c : Nat) (cs : List Nat) : mC (k :: a) (c :: cs) = (2 * (1 + c) + (if k = 68 then 2 else 0)) + mC a (c :: (if k = 68 then c + 1 else c) :: cs) := by
  show (if tAr k = 1 then _ else if tAr k = 2 then _ else _) = _
  rw [if_neg (by rw [h]; decide), if_pos h]
theorem mC_0 {k : Int32} (h : tAr k = 0) (a : List Int32) (c : Nat) (cs : List Nat) : mC (k :: a) (c :: cs) = mC a cs := by
  show (if tAr k = 1 then _ else if tAr k = 2 then _ else _) = _
  rw [if_neg (by rw [h]; decide), if_neg (by rw [h]; decide)]
theorem mC_mono : ∀ (n : Nat) (l : List Int32), l.length ≤ n → tV l → ∀ c, mC l [c] ≤ mC l [c + 1] := by
  refine tV_ind (fun k h c => ?_) (fun k a h hv ih c => ?_) (fun k a b h hva hvb iha ihb c => ?_)
  · rw [mC_0 h, mC_0 h]
    exact Nat.le_refl _
  · rw [mC_1 h, mC_1 h]
    have := ih (c + 1)
    omega
  · rw [mC_2 h, mC_2 h, mC_V hva, mC_V hva]
    have h1 := iha c
    by_cases e : k = 68
    · rw [if_pos e, if_pos e, if_pos e]
      have h2 := ihb (c + 1)
      omega
    · rw [if_neg e, if_neg e, if_neg e]
      have h2 := ihb c
      omega
theorem tV_pos {l : List Int32} (h : tV l) : 0 < l.length := by
  have := trun_le h
  omega
theorem mC_bound : ∀ (n : Nat) (l : List Int32), l.length ≤ n → tV l → ∀ c, 2 * mC l [c] ≤ 2 * (l.length - 1) * (c + 2) + (l.length - 1) * (l.length - 1) := by
  refine tV_ind (fun k h c => ?_) (fun k a h hv ih c => ?_) (fun k a b h hva hvb iha ihb c => ?_)
  · rw [mC_0 h]
    exact Nat.zero_le _
  · rw [mC_1 h]
    have h1 := ih (c + 1)
    have hp := tV_pos hv
    obtain ⟨m, hm⟩ : ∃ m, a.length = m + 1 := ⟨a.length - 1, by omega⟩
    simp only [List.length_cons, hm, Nat.add_sub_cancel] at h1 ⊢
    have e1 : 2 * m * (c + 1 + 2) = 2 * (m * c) + 6 * m := by rw [Nat.mul_assoc, Nat.mul_add, Nat.mul_add, Nat.mul_add]; omega
    have e2 : 2 * (m + 1) * (c + 2) = 2 * (m * c) + 4 * m + 2 * c + 4 := by simp only [Nat.mul_assoc, Nat.add_mul, Nat.mul_add]; omega
    have e3 : (m + 1) * (m + 1) = m * m + 2 * m + 1 := by rw [Nat.add_mul, Nat.mul_add]; omega
    rw [e1] at h1
    rw [e2, e3]
    omega
  · have ha := iha c
    have hp := tV_pos hva
    have hq := tV_pos hvb
    obtain ⟨m, hm⟩ : ∃ m, a.length = m + 1 := ⟨a.length - 1, by omega⟩
    obtain ⟨n, hn⟩ : ∃ n, b.length = n + 1 := ⟨b.length - 1, by omega⟩
    have hb : 2 * mC b [if k = 68 then c + 1 else c] ≤ 2 * n * (c + 3) + n * n := by
      by_cases e : k = 68
      · rw [if_pos e]
        have := ihb (c + 1)
        rw [hn, Nat.add_sub_cancel] at this
        exact this
      · rw [if_neg e]
        have := ihb c
        rw [hn, Nat.add_sub_cancel] at this
        exact Nat.le_trans this (Nat.add_le_add_right (Nat.mul_le_mul_left _ (by omega)) _)
    have hk : (if k = 68 then 2 else 0) ≤ 2 := by split <;> omega
    rw [mC_2 h, mC_V hva]
    simp only [List.length_cons, List.length_append, hm, hn, Nat.add_sub_cancel] at ha ⊢
    have e1 : 2 * m * (c + 2) = 2 * (m * c) + 4 * m := by rw [Nat.mul_assoc, Nat.mul_add]; omega
    have e2 : 2 * n * (c + 3) = 2 * (n * c) + 6 * n := by rw [Nat.mul_assoc, Nat.mul_add]; omega
    have e3 : 2 * (m + 1 + (n + 1)) * (c + 2) = 2 * (m * c) + 2 * (n * c) + 4 * c + 4 * m + 4 * n + 8 := by
      simp only [Nat.mul_assoc, Nat.add_mul, Nat.mul_add]; omega
    have e4 : (m + 1 + (n + 1)) * (m + 1 + (n + 1)) = m * m + n * n + 2 * (m * n) + 4 * m + 4 * n + 4 := by
      simp only [Nat.add_mul, Nat.mul_add, Nat.mul_comm n m]; omega
    rw [e1] at ha
    rw [e2] at hb
    rw [e3, e4]
    have e5 : mC b [] = 0 := mC_nil b
    omega
/-- sums, weighed by how many stand above -/
def mW : List Int32 → List Nat → Nat
  | [], _ => 0
  | _ :: _, [] => 0
  | k :: l, c :: cs => if tAr k = 1 then mW l (c :: cs) else if tAr k = 2 then (if k = 83 then c else 0) + mW l ((if k = 83 then 2 * c else c) :: (if k = 83 then 2 * c else c) :: cs) else mW l cs
theorem mW_nil (l : List Int32) : mW l [] = 0 := by cases l <;> rfl
theorem mW_split {s r : List Int32} : ∀ (c1 cs : List Nat), trun s c1.length = some 0 → mW (s ++ r) (c1 ++ cs) = mW s c1 + mW r cs := by
  induction s with
  | nil =>
    intro c1 cs h
    simp only [trun, Option.some.injEq] at h
    rw [List.length_eq_zero_iff.mp h]
    exact (Nat.zero_add _).symm
  | cons k a ih =>
    intro c1 cs h
    cases c1 with
    | nil => cases h
    | cons c c1 =>
      have h : trun a (c1.length + tAr k) = some 0 := h
      show (if tAr k = 1 then mW (a ++ r) (c :: (c1 ++ cs)) else if tAr k = 2 then (if k = 83 then c else 0) + mW (a ++ r) ((if k = 83 then 2 * c else c) :: (if k = 83 then 2 * c else c) :: (c1 ++ cs)) else mW (a ++ r) (c1 ++ cs)) = (if tAr k = 1 then mW a (c :: c1) else if tAr k = 2 then (if k = 83 then c else 0) + mW a ((if k = 83 then 2 * c else c) :: (if k = 83 then 2 * c else c) :: c1) else mW a c1) + mW r cs
      by_cases h1 : tAr k = 1
      · rw [if_pos h1, if_pos h1]
        rw [h1] at h
        exact ih (c :: c1) cs h
      · rw [if_neg h1, if_neg h1]
        by_cases h2 : tAr k = 2
        · rw [if_pos h2, if_pos h2]
          rw [h2] at h
          have := ih ((if k = 83 then 2 * c else c) :: (if k = 83 then 2 * c else c) :: c1) cs h
          rw [Nat.add_assoc, ← this]
          rfl
        · rw [if_neg h2, if_neg h2]
          have h0 : tAr k = 0 := by rcases tAr_012 k with e | e | e <;> omega
          rw [h0] at h
          exact ih c1 cs h
theorem mW_V {s : List Int32} (h : tV s) (r : List Int32) (c : Nat) (cs : List Nat) : mW (s ++ r) (c :: cs) = mW s [c] + mW r cs := mW_split (s := s) (r := r) [c] cs h
theorem mW_1 {k : Int32} (h : tAr k = 1) (a : List Int32) (c : Nat) (cs : List Nat) : mW (k :: a) (c :: cs) = mW a (c :: cs) := if_pos h
theorem mW_0 {k : Int32} (h : tAr k = 0) (a : List Int32) (c : Nat) (cs : List Nat) : mW (k :: a) (c :: cs) = mW a cs := by
  show (if tAr k = 1 then _ else if tAr k = 2 then _ else _) = _
  rw [if_neg (by rw [h]; decide), if_neg (by rw [h]; decide)]
theorem mW_2 {k : Int32} (h : tAr k = 2) (a : List Int32) (c : Nat) (cs : List Nat) : mW (k :: a) (c :: cs) = (if k = 83 then c else 0) + mW a ((if k = 83 then 2 * c else c) :: (if k = 83 then 2 * c else c) :: cs) := by
  show (if tAr k = 1 then _ else if tAr k = 2 then _ else _) = _
  rw [if_neg (by rw [h]; decide), if_pos h]
theorem mW_lin : ∀ (n : Nat) (l : List Int32), l.length ≤ n → tV l → ∀ c, mW l [c] = c * mW l [1] := by
  refine tV_ind (fun k h c => ?_) (fun k a h hv ih c => ?_) (fun k a b h hva hvb iha ihb c => ?_)
  · rw [mW_0 h, mW_0 h]; rfl
  · rw [mW_1 h, mW_1 h]; exact ih c
  · rw [mW_2 h, mW_2 h, mW_V hva, mW_V hva]
    by_cases e : k = 83
    · rw [if_pos e, if_pos e, if_pos e, if_pos e, iha (2 * c), ihb (2 * c), iha (2 * 1), ihb (2 * 1), Nat.mul_add, Nat.mul_add, Nat.mul_one]
      have e1 : c * (2 * 1 * mW a [1]) = 2 * c * mW a [1] := by rw [← Nat.mul_assoc, Nat.mul_one, Nat.mul_comm c 2]
      have e2 : c * (2 * 1 * mW b [1]) = 2 * c * mW b [1] := by rw [← Nat.mul_assoc, Nat.mul_one, Nat.mul_comm c 2]
      rw [Nat.mul_one] at e1 e2
      rw [e1, e2]
    · rw [if_neg e, if_neg e, if_neg e, if_neg e, iha c, ihb c, Nat.mul_add, Nat.mul_add, Nat.mul_zero]
theorem mW_sum {a b : List Int32} (ha : tV a) (hb : tV b) : mW (83 :: (a ++ b)) [1] = 1 + 2 * mW a [1] + 2 * mW b [1] := by
  rw [mW_2 (k := 83) rfl, mW_V ha, if_pos rfl, if_pos rfl, mW_lin _ a (Nat.le_refl _) ha (2 * 1), mW_lin _ b (Nat.le_refl _) hb (2 * 1)]
  omega
theorem mW_sq : ∀ (n : Nat) (l : List Int32), l.length ≤ n → tV l → (mW l [1] + 1) * (mW l [1] + 1) * 2 ≤ 2 ^ l.length := by
  refine tV_ind (fun k h => ?_) (fun k a h hv ih => ?_) (fun k a b h hva hvb iha ihb => ?_)
  · rw [mW_0 h, mW_nil]; exact Nat.le_refl 2
  · rw [mW_1 h, List.length_cons, Nat.pow_succ]
    omega
  · generalize hx : mW a [1] = x at iha
    generalize hy : mW b [1] = y at ihb
    have hmul : ((x + 1) * (x + 1) * 2) * ((y + 1) * (y + 1) * 2) ≤ 2 ^ a.length * 2 ^ b.length := Nat.mul_le_mul iha ihb
    rw [List.length_cons, List.length_append, Nat.pow_succ, Nat.pow_add]
    have key : ((x + 1) * (x + 1) * 2) * ((y + 1) * (y + 1) * 2) = 4 * (((x + 1) * (y + 1)) * ((x + 1) * (y + 1))) := by
      simp only [Nat.mul_assoc, Nat.mul_comm, Nat.mul_left_comm]
    rw [key] at hmul
    have hle : x + y + 1 ≤ (x + 1) * (y + 1) := by rw [Nat.add_mul, Nat.mul_add]; omega
    have hs := Nat.mul_le_mul hle hle
    have hw : mW (k :: (a ++ b)) [1] + 1 ≤ 2 * (x + y + 1) := by
      by_cases e : k = 83
      · rw [e, mW_sum hva hvb, hx, hy]; omega
      · rw [mW_2 h, mW_V hva, if_neg e, if_neg e, hx, hy]; omega
    have hs2 := Nat.mul_le_mul hw hw
    have e4 : 2 * (x + y + 1) * (2 * (x + y + 1)) = 4 * ((x + y + 1) * (x + y + 1)) := by
      rw [Nat.mul_mul_mul_comm]
    rw [e4] at hs2
    omega
theorem mW_27 {l : List Int32} (hv : tV l) (h : l.length ≤ 19) : mW l [1] ≤ 27 * l.length := by
  have hq := mW_sq _ l (Nat.le_refl _) hv
  generalize mW l [1] = x at hq
  generalize l.length = n at hq h
  apply Decidable.byContradiction
  intro hc
  have hx : 27 * n + 2 ≤ x + 1 := by omega
  have := Nat.le_trans (Nat.mul_le_mul_right 2 (Nat.mul_le_mul hx hx)) hq
  have hd : ∀ n, n < 20 → ¬ (27 * n + 2) * (27 * n + 2) * 2 ≤ 2 ^ n := by decide
  exact hd n (by omega) this
/-- the sums that stand under no other, each small one with its weight -/
def mT : List Int32 → Nat → Nat
  | [], _ => 0
  | k :: l, s + 1 => mT l (s + tAr k)
  | k :: l, 0 => if k = 83 then (if tlen l 2 ≤ 18 then mW (k :: l) [1] else 0) + mT l 2 else mT l 0
theorem mT_skip : ∀ (s r : List Int32) (n : Nat), trun s n = some 0 → mT (s ++ r) n = mT r 0
  | [], r, n, h => by
    simp only [trun, Option.some.injEq] at h
    rw [h]; rfl
  | k :: s, r, 0, h => by cases h
  | k :: s, r, n + 1, h => mT_skip s r (n + tAr k) h
theorem tlen_V {s : List Int32} : ∀ (r : List Int32) (n : Nat), trun s n = some 0 → tlen (s ++ r) n = s.length := by
  induction s with
  | nil =>
    intro r n h
    simp only [trun, Option.some.injEq] at h
    rw [h, tlen_0]; rfl
  | cons k s ih =>
    intro r n h
    cases n with
    | zero => cases h
    | succ n =>
      show 1 + tlen (s ++ r) (n + tAr k) = _
      rw [ih r (n + tAr k) h, List.length_cons]
      omega
theorem trun_2 {a b : List Int32} (ha : tV a) (hb : tV b) : trun (a ++ b) 2 = some 0 := by
  rw [trun_app, trun_1 ha 1]
  exact hb
theorem mT_add : ∀ (n : Nat) (l : List Int32), l.length ≤ n → tV l → ∀ r, mT (l ++ r) 0 = mT l 0 + mT r 0 := by
  refine tV_ind (fun k h r => ?_) (fun k a h hv ih r => ?_) (fun k a b h hva hvb iha ihb r => ?_)
  · have e : ¬ k = 83 := fun e => by rw [e] at h; cases h
    show (if k = 83 then _ else mT r 0) = (if k = 83 then _ else mT [] 0) + mT r 0
    rw [if_neg e, if_neg e]
    exact (Nat.zero_add _).symm
  · have e : ¬ k = 83 := fun e => by rw [e] at h; cases h
    show (if k = 83 then _ else mT (a ++ r) 0) = (if k = 83 then _ else mT a 0) + mT r 0
    rw [if_neg e, if_neg e, ih r]
  · have hab := trun_2 hva hvb
    by_cases e : k = 83
    · subst e
      show (if (83 : Int32) = 83 then (if tlen (a ++ b ++ r) 2 ≤ 18 then mW (83 :: (a ++ b ++ r)) [1] else 0) + mT (a ++ b ++ r) 2 else _) = (if (83 : Int32) = 83 then (if tlen (a ++ b) 2 ≤ 18 then mW (83 :: (a ++ b)) [1] else 0) + mT (a ++ b) 2 else _) + mT r 0
      rw [if_pos rfl, if_pos rfl, tlen_V r 2 hab, mT_skip (a ++ b) r 2 hab]
      have e1 := tlen_V (s := a ++ b) [] 2 hab
      rw [List.append_nil] at e1
      have e2 := mT_skip (a ++ b) [] 2 hab
      rw [List.append_nil] at e2
      rw [e1, e2]
      have hv : tV (83 :: (a ++ b)) := hab
      have e3 : mW (83 :: (a ++ b ++ r)) [1] = mW (83 :: (a ++ b)) [1] := by
        have := mW_V hv r 1 []
        rw [mW_nil, Nat.add_zero] at this
        exact this
      rw [e3]
      show _ = _ + 0 + mT r 0
      omega
    · show (if k = 83 then _ else mT (a ++ b ++ r) 0) = (if k = 83 then _ else mT (a ++ b) 0) + mT r 0
      rw [if_neg e, if_neg e, List.append_assoc, iha, ihb, iha b]
      omega
theorem mT_1 {k : Int32} (h : ¬ k = 83) (l : List Int32) : mT (k :: l) 0 = mT l 0 := if_neg h
theorem mT_V {s : List Int32} (h : tV s) (r : List Int32) : mT (s ++ r) 0 = mT s 0 + mT r 0 := mT_add _ s (Nat.le_refl _) h r
theorem mT_sum {a b : List Int32} (ha : tV a) (hb : tV b) : mT (83 :: (a ++ b)) 0 = if a.length + b.length ≤ 18 then mW (83 :: (a ++ b)) [1] else 0 := by
  have hab := trun_2 ha hb
  show (if (83 : Int32) = 83 then (if tlen (a ++ b) 2 ≤ 18 then mW (83 :: (a ++ b)) [1] else 0) + mT (a ++ b) 2 else _) = _
  have e1 := tlen_V (s := a ++ b) [] 2 hab
  rw [List.append_nil] at e1
  have e2 := mT_skip (a ++ b) [] 2 hab
  rw [List.append_nil] at e2
  rw [if_pos rfl, e1, e2, List.length_append]
  rfl
theorem mT_le : ∀ (n : Nat) (l : List Int32), l.length ≤ n → tV l → mT l 0 ≤ mW l [1] ∧ mT l 0 ≤ 27 * l.length := by
  refine tV_ind (fun k h => ?_) (fun k a h hv ih => ?_) (fun k a b h hva hvb iha ihb => ?_)
  · have e : ¬ k = 83 := fun e => by rw [e] at h; cases h
    rw [mT_1 e]
    exact ⟨Nat.zero_le _, Nat.zero_le _⟩
  · have e : ¬ k = 83 := fun e => by rw [e] at h; cases h
    rw [mT_1 e, mW_1 h, List.length_cons]
    exact ⟨ih.1, by have := ih.2; omega⟩
  · by_cases e : k = 83
    · subst e
      rw [mT_sum hva hvb]
      split
      · rename_i c
        exact ⟨Nat.le_refl _, mW_27 (trun_2 hva hvb) (by simp only [List.length_cons, List.length_append]; omega)⟩
      · exact ⟨Nat.zero_le _, Nat.zero_le _⟩
    · rw [mT_1 e, mT_V hva, mW_2 h, mW_V hva, if_neg e, if_neg e]
      simp only [List.length_cons, List.length_append]
      have h1 := iha
      have h2 := ihb
      omega
theorem mT_pre : ∀ (a r : List Int32), (∀ k ∈ a, ¬ k = 83) → mT (a ++ r) 0 = mT r 0
  | [], _, _ => rfl
  | k :: a, r, h => by
    rw [List.cons_append, mT_1 (h k (List.mem_cons_self ..))]
    exact mT_pre a r (fun j hj => h j (List.mem_cons_of_mem _ hj))
/-- the measure -/
def mQ (l : List Int32) : Nat := 900 * mT l 0 + mC l [0]
theorem mQ_bound {l : List Int32} (hv : tV l) (h : l.length ≤ 40) : mC l [0] < 900 ∧ mQ l < 1000000 := by
  have h1 := mC_bound _ l (Nat.le_refl _) hv 0
  have h2 := (mT_le _ l (Nat.le_refl _) hv).2
  have h3 : (l.length - 1) * (l.length - 1) ≤ 39 * 39 := Nat.mul_le_mul (by omega) (by omega)
  have h4 : 2 * (l.length - 1) * (0 + 2) ≤ 2 * 39 * 2 := Nat.mul_le_mul (by omega) (Nat.le_refl _)
  unfold mQ
  omega