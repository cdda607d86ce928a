/-! TEXTS, as lists: where a term ends -/
/-- how many terms are open behind a list, from c on -/
def trun : List Int32 → Nat → Option Nat
  | [], c => some c
  | _ :: _, 0 => none
  | k :: l, c + 1 => trun l (c + tAr k)
/-- the length of the first c terms of a list -/
def tlen : List Int32 → Nat → Nat
  | [], _ => 0
  | _ :: _, 0 => 0
  | k :: l, c + 1 => 1 + tlen l (c + tAr k)
theorem trun_app : ∀ (a b : List Int32) (c : Nat), trun (a ++ b) c = (trun a c).bind (trun b)
  | [], b, c => rfl
  | k :: a, b, 0 => rfl
  | k :: a, b, c + 1 => trun_app a b (c + tAr k)
theorem trun_shift : ∀ {l : List Int32} {c r : Nat} (s : Nat), trun l c = some r → trun l (c + s) = some (r + s)
  | [], c, r, s, h => by simp only [trun, Option.some.injEq] at h ⊢; omega
  | k :: l, 0, r, s, h => by simp [trun] at h
  | k :: l, c + 1, r, s, h => by
    have h2 : trun l (c + tAr k) = some r := h
    rw [show c + 1 + s = c + s + 1 by omega]
    show trun l (c + s + tAr k) = some (r + s)
    rw [show c + s + tAr k = c + tAr k + s by omega]
    exact trun_shift s h2
theorem tlen_0 (l : List Int32) : tlen l 0 = 0 := by cases l <;> rfl
theorem tlen_le : ∀ (l : List Int32) (c : Nat), tlen l c ≤ l.length
  | [], _ => Nat.le_refl _
  | k :: l, 0 => Nat.zero_le _
  | k :: l, c + 1 => by
    have := tlen_le l (c + tAr k)
    show 1 + tlen l (c + tAr k) ≤ (k :: l).length
    simp only [List.length_cons]
    omega
/-- a list that closes a + b terms: the first a, and the rest -/
theorem tlen_split : ∀ {l : List Int32} {a b : Nat}, trun l (a + b) = some 0 → trun (l.take (tlen l a)) a = some 0 ∧ trun (l.drop (tlen l a)) b = some 0 ∧ tlen l (a + b) = tlen l a + tlen (l.drop (tlen l a)) b
  | [], a, b, h => by
    simp only [trun, Option.some.injEq] at h
    have ha : a = 0 := by omega
    have hb : b = 0 := by omega
    subst ha; subst hb
    exact ⟨rfl, rfl, rfl⟩
  | k :: l, 0, b, h => by
    simp only [tlen_0, Nat.zero_add, List.take_zero, List.drop_zero] at h ⊢
    exact ⟨rfl, h, trivial⟩
  | k :: l, a + 1, b, h => by
    have h2 : trun l (a + tAr k + b) = some 0 := by
      rw [show a + 1 + b = (a + b) + 1 by omega] at h
      rw [show a + tAr k + b = a + b + tAr k by omega]
      exact h
    obtain ⟨e1, e2, e3⟩ := tlen_split h2
    have ht : tlen (k :: l) (a + 1) = tlen l (a + tAr k) + 1 := by
      show 1 + tlen l (a + tAr k) = _
      omega
    rw [ht]
    refine ⟨?_, ?_, ?_⟩
    · rw [List.take_succ_cons]
      exact e1
    · rw [List.drop_succ_cons]
      exact e2
    · rw [List.drop_succ_cons, show a + 1 + b = (a + b) + 1 by omega]
      show 1 + tlen l (a + b + tAr k) = _
      rw [show a + b + tAr k = a + tAr k + b by omega, e3]
      omega
theorem tlen_all {l : List Int32} {a : Nat} (h : trun l a = some 0) : tlen l a = l.length := by
  obtain ⟨e1, e2, -⟩ := tlen_split (a := a) (b := 0) h
  by_cases hd : l.drop (tlen l a) = []
  · have := List.drop_eq_nil_iff.mp hd
    have h2 := tlen_le l a
    omega
  · exfalso
    cases hh : l.drop (tlen l a) with
    | nil => exact hd hh
    | cons k t => rw [hh] at e2; simp [trun] at e2
/-- a text is one term -/
def tV (l : List Int32) : Prop := trun l 1 = some 0
/-- what is open at a place of a text -/
theorem tV_at {l : List Int32} (h : tV l) {i : Nat} (hi : i < l.length) : ∃ c, trun (l.drop i) (1 + c) = some 0 := by
  unfold tV at h
  rw [← List.take_append_drop i l, trun_app] at h
  cases ht : trun (l.take i) 1 with
  | none => rw [ht] at h; cases h
  | some c =>
    rw [ht] at h
    cases c with
    | zero =>
      exfalso
      cases hd : l.drop i with
      | nil =>
        have := List.drop_eq_nil_iff.mp hd
        omega
      | cons k t =>
        rw [hd] at h
        simp [trun] at h
    | succ c =>
      refine ⟨c, ?_⟩
      rw [Nat.add_comm 1 c]
      exact h
/-- the first a + b terms of a list that closes more -/
theorem tlen_addc : ∀ {l : List Int32} {a b c : Nat}, trun l (a + b + c) = some 0 → tlen l (a + b) = tlen l a + tlen (l.drop (tlen l a)) b
  | [], a, b, c, _ => rfl
  | k :: l, 0, b, c, _ => by simp [tlen_0]
  | k :: l, a + 1, b, c, h => by
    have h2 : trun l (a + tAr k + b + c) = some 0 := by
      rw [show a + 1 + b + c = (a + b + c) + 1 by omega] at h
      rw [show a + tAr k + b + c = a + b + c + tAr k by omega]
      exact h
    have e3 := tlen_addc h2
    have ht : tlen (k :: l) (a + 1) = tlen l (a + tAr k) + 1 := by
      show 1 + tlen l (a + tAr k) = _
      omega
    rw [ht, List.drop_succ_cons, show a + 1 + b = (a + b) + 1 by omega]
    show 1 + tlen l (a + b + tAr k) = _
    rw [show a + b + tAr k = a + tAr k + b by omega, e3]
    omega
theorem tlen_add2 {l : List Int32} {c : Nat} (h : trun l (2 + c) = some 0) : tlen l 2 = tlen l 1 + tlen (l.drop (tlen l 1)) 1 := tlen_addc (a := 1) (b := 1) (c := c) h
/-- the place behind the term that begins at i -/
def tE (l : List Int32) (i : Nat) : Nat := i + tlen (l.drop i) 1
/-- the term that begins at i -/
def tS (l : List Int32) (i : Nat) : List Int32 := (l.drop i).take (tlen (l.drop i) 1)
theorem tE_le {l : List Int32} {i : Nat} (hi : i ≤ l.length) : tE l i ≤ l.length := by
  have := tlen_le (l.drop i) 1
  rw [List.length_drop] at this
  unfold tE
  omega
theorem tE_gt {l : List Int32} {i : Nat} (hi : i < l.length) : i < tE l i := by
  unfold tE
  rw [List.drop_eq_getElem_cons hi]
  show i < i + (1 + tlen _ (0 + _))
  omega
/-- ends by the arity of the first sign -/
theorem tE_step {l : List Int32} (h : tV l) {i : Nat} (hi : i < l.length) : (tAr (l.getD i 32) = 0 → tE l i = i + 1) ∧ (tAr (l.getD i 32) = 1 → i + 1 < l.length ∧ tE l i = tE l (i + 1)) ∧ (tAr (l.getD i 32) = 2 → i + 1 < l.length ∧ tE l (i + 1) < l.length ∧ tE l i = tE l (tE l (i + 1))) := by
  have hg : l.getD i 32 = l[i] := by rw [List.getD_eq_getElem?_getD, List.getElem?_eq_getElem hi]; rfl
  obtain ⟨c, hc⟩ := tV_at h hi
  have hd := List.drop_eq_getElem_cons hi
  have e0 : tE l i = i + (1 + tlen (l.drop (i + 1)) (tAr l[i])) := by
    unfold tE
    rw [hd]
    show i + (1 + tlen (l.drop (i + 1)) (0 + tAr l[i])) = _
    rw [Nat.zero_add]
  have hr : trun (l.drop (i + 1)) (tAr l[i] + c) = some 0 := by
    rw [hd, Nat.add_comm 1 c] at hc
    rw [show tAr l[i] + c = c + tAr l[i] by omega]
    exact hc
  rw [hg]
  refine ⟨fun h0 => ?_, fun h1 => ?_, fun h2 => ?_⟩
  · rw [e0, h0, tlen_0]
  · rw [h1] at hr e0
    have hlt : i + 1 < l.length := by
      rcases Nat.lt_or_ge (i + 1) l.length with z | z
      · exact z
      · rw [List.drop_eq_nil_of_le z] at hr
        simp only [trun, Option.some.injEq] at hr
        omega
    exact ⟨hlt, by rw [e0]; unfold tE; omega⟩
  · rw [h2] at hr e0
    have hlt : i + 1 < l.length := by
      rcases Nat.lt_or_ge (i + 1) l.length with z | z
      · exact z
      · rw [List.drop_eq_nil_of_le z] at hr
        simp only [trun, Option.some.injEq] at hr
        omega
    obtain ⟨s1, s2, s3⟩ := tlen_split (a := 1) (b := 1 + c) (by rw [show 1 + (1 + c) = 2 + c by omega]; exact hr)
    obtain ⟨t1, t2, t3⟩ := tlen_split (a := 1 + 1) (b := c) hr
    have hdd : (l.drop (i + 1)).drop (tlen (l.drop (i + 1)) 1) = l.drop (tE l (i + 1)) := by
      rw [List.drop_drop]
      rfl
    have hlt2 : tE l (i + 1) < l.length := by
      rcases Nat.lt_or_ge (tE l (i + 1)) l.length with z | z
      · exact z
      · rw [hdd, List.drop_eq_nil_of_le z] at s2
        simp only [trun, Option.some.injEq] at s2
        omega
    refine ⟨hlt, hlt2, ?_⟩
    have key : tlen (l.drop (i + 1)) 2 = tlen (l.drop (i + 1)) 1 + tlen (l.drop (tE l (i + 1))) 1 := by
      rw [← hdd]
      exact tlen_add2 hr
    rw [e0, key]
    unfold tE
    omega
