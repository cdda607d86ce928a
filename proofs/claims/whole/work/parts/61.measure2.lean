/-! EACH STEP MAKES THE MEASURE SMALLER -/
theorem tRule_115 {l : List Int32} {i : Nat} (h : tRule l i = 115) : l.getD i 32 = 83 := by
  unfold tRule at h
  split at h
  · unfold tC at h
    repeat' split at h
    all_goals exact absurd h (by decide)
  · split at h
    · exact absurd h (by decide)
    · split at h
      · unfold tPair at h
        repeat' split at h
        all_goals exact absurd h (by decide)
      · split at h
        · assumption
        · split at h
          · unfold tPair at h
            repeat' split at h
            all_goals exact absurd h (by decide)
          · exact absurd h (by decide)
theorem tRule_100 {l : List Int32} {i : Nat} (h : tRule l i = 100) : l.getD i 32 = 68 := by
  unfold tRule at h
  split at h
  · unfold tC at h
    repeat' split at h
    all_goals exact absurd h (by decide)
  · split at h
    · assumption
    · split at h
      · unfold tPair at h
        repeat' split at h
        all_goals exact absurd h (by decide)
      · split at h
        · exact absurd h (by decide)
        · split at h
          · unfold tPair at h
            repeat' split at h
            all_goals exact absurd h (by decide)
          · exact absurd h (by decide)
theorem tRule_83 {l : List Int32} {i : Nat} (h : l.getD i 32 = 83) : tRule l i = 115 := by
  unfold tRule
  rw [h, if_neg (by decide), if_neg (by decide), if_neg (by decide), if_pos rfl]
theorem tFrom_before {l : List Int32} : ∀ {m i j : Nat}, tFrom l m i = some j → ∀ k, i ≤ k → k < j → tRule l k = 32
  | 0, i, j, h => by cases h
  | m + 1, i, j, h => by
    intro k hk hkj
    unfold tFrom at h
    split at h
    · rename_i c
      by_cases e : k = i
      · rw [e]; exact c
      · exact tFrom_before h k (by omega) hkj
    · cases h
      omega
/-- of a term and what stands in its place -/
def mLess (c : Nat) (s b : List Int32) : Prop := (mC b [c] < mC s [c] ∧ mT b 0 ≤ mT s 0) ∨ mT b 0 < mT s 0
theorem mLess_2 {k : Int32} {a b : List Int32} (h : tAr k = 2) (ha : tV a) (hb : tV b) (h83 : ¬ k = 83) (c : Nat) : mLess c (k :: (a ++ b)) a ∧ mLess c (k :: (a ++ b)) b := by
  have e1 : mC (k :: (a ++ b)) [c] = (2 * (1 + c) + (if k = 68 then 2 else 0)) + (mC a [c] + mC b [if k = 68 then c + 1 else c]) := by rw [mC_2 h, mC_V ha]
  have e2 : mT (k :: (a ++ b)) 0 = mT a 0 + mT b 0 := by rw [mT_1 h83, mT_V ha]
  refine ⟨Or.inl ⟨by omega, by omega⟩, Or.inl ⟨?_, by omega⟩⟩
  by_cases e : k = 68
  · rw [if_pos e, if_pos e] at e1
    have := mC_mono _ b (Nat.le_refl _) hb c
    omega
  · rw [if_neg e, if_neg e] at e1
    omega
theorem mLess_0 {k : Int32} {x : List Int32} (c : Nat) (z : Int32) (hz : tAr z = 0) (hp : 0 < mC (k :: x) [c]) : mLess c (k :: x) [z] := by
  have h83 : ¬ z = 83 := fun e => by rw [e] at hz; cases hz
  refine Or.inl ⟨?_, ?_⟩
  · rw [mC_0 hz, mC_nil]; exact hp
  · rw [mT_1 h83]; exact Nat.zero_le _
theorem tBody_less {l : List Int32} (hv : tV l) {i : Nat} (hi : i < l.length) (h : ¬ tRule l i = 32) (h40 : (tBody l i (tRule l i)).length ≤ 40) (c : Nat) : mLess c (tS l i) (tBody l i (tRule l i)) := by
  have r2 : ∀ {p : Nat}, p < l.length → tV (tS l p) := fun hp => by rw [← tS_sl]; exact tS_run hv hp
  rcases tRule_shape h with ⟨h67, hh⟩ | ⟨ha, hh⟩
  · obtain ⟨p1, p2⟩ := tE_one hv hi h67
    have es := (tS_parts hv hi).2.1 (by rw [h67]; rfl)
    rw [h67] at es
    rcases hh with ⟨hr, hk⟩ | ⟨hr, hk⟩ | ⟨hr, hk⟩ | ⟨hr, hk⟩ | ⟨hr, hk⟩
    · obtain ⟨q1, q2⟩ := tE_one hv p1 hk
      have et := (tS_parts hv p1).2.1 (by rw [hk]; rfl)
      rw [hk] at et
      have e2 : i + 1 + 1 = i + 2 := rfl
      rw [e2] at et q1 q2
      rw [hr, tBody_110, p2, q2, tS_sl, es, et]
      have m1 := mC_mono _ _ (Nat.le_refl _) (r2 q1) c
      have m2 := mC_mono _ _ (Nat.le_refl _) (r2 q1) (c + 1)
      refine Or.inl ⟨?_, ?_⟩
      · rw [mC_1 (k := 67) rfl, mC_1 (k := 67) rfl]
        omega
      · rw [mT_1 (k := 67) (by decide), mT_1 (k := 67) (by decide)]
        exact Nat.le_refl _
    · rw [hr, tBody_101, es]
      exact mLess_0 c 49 rfl (by rw [mC_1 (k := 67) rfl]; omega)
    · rw [hr, tBody_118, es]
      exact mLess_0 c 48 rfl (by rw [mC_1 (k := 67) rfl]; omega)
    · obtain ⟨q1, q2, q3, q4, q5, q6⟩ := tE_two hv p1 (by rw [hk]; rfl)
      have et := (tS_parts hv p1).2.2 (by rw [hk]; rfl)
      rw [hk] at et
      have e2 : i + 1 + 1 = i + 2 := rfl
      rw [e2] at et q1 q3 q5
      have va := r2 q1
      have vb := r2 q3
      rw [hr, tBody_105, p2, q5, tS_sl, tS_sl, es, et]
      generalize tS l (i + 2) = a at va
      generalize tS l (tE l (i + 2)) = b at vb
      refine Or.inl ⟨?_, ?_⟩
      · show mC (85 :: 67 :: (a ++ [67] ++ b)) [c] < _
        rw [List.append_assoc, mC_2 (k := 85) rfl, mC_1 (k := 67) rfl, mC_V va, mC_1 (k := 67) rfl, mC_2 (k := 73) rfl, mC_V va]
        show (2 * (1 + c) + 0) + (1 + (mC a [c + 1] + mC (67 :: b) [c])) < 1 + (2 * (1 + (c + 1)) + 0 + (mC a [c + 1] + mC b [c + 1]))
        rw [mC_1 (k := 67) rfl]
        omega
      · show mT (85 :: 67 :: (a ++ [67] ++ b)) 0 ≤ _
        rw [List.append_assoc, mT_1 (k := 85) (by decide), mT_1 (k := 67) (by decide), mT_V va, mT_1 (k := 67) (by decide), mT_1 (k := 73) (by decide), mT_V va]
        show mT a 0 + mT (67 :: b) 0 ≤ _
        rw [mT_1 (k := 67) (by decide)]
        exact Nat.le_refl _
    · obtain ⟨q1, q2, q3, q4, q5, q6⟩ := tE_two hv p1 (by rw [hk]; rfl)
      have et := (tS_parts hv p1).2.2 (by rw [hk]; rfl)
      rw [hk] at et
      have e2 : i + 1 + 1 = i + 2 := rfl
      rw [e2] at et q1 q3 q5
      have va := r2 q1
      have vb := r2 q3
      rw [hr, tBody_117, p2, q5, tS_sl, tS_sl, es, et]
      generalize tS l (i + 2) = a at va
      generalize tS l (tE l (i + 2)) = b at vb
      refine Or.inl ⟨?_, ?_⟩
      · show mC (73 :: 67 :: (a ++ [67] ++ b)) [c] < _
        rw [List.append_assoc, mC_2 (k := 73) rfl, mC_1 (k := 67) rfl, mC_V va, mC_1 (k := 67) rfl, mC_2 (k := 85) rfl, mC_V va]
        show (2 * (1 + c) + 0) + (1 + (mC a [c + 1] + mC (67 :: b) [c])) < 1 + (2 * (1 + (c + 1)) + 0 + (mC a [c + 1] + mC b [c + 1]))
        rw [mC_1 (k := 67) rfl]
        omega
      · show mT (73 :: 67 :: (a ++ [67] ++ b)) 0 ≤ _
        rw [List.append_assoc, mT_1 (k := 73) (by decide), mT_1 (k := 67) (by decide), mT_V va, mT_1 (k := 67) (by decide), mT_1 (k := 85) (by decide), mT_V va]
        show mT a 0 + mT (67 :: b) 0 ≤ _
        rw [mT_1 (k := 67) (by decide)]
        exact Nat.le_refl _
  · obtain ⟨q1, q2, q3, q4, q5, q6⟩ := tE_two hv hi ha
    have es := (tS_parts hv hi).2.2 ha
    have va := r2 q1
    have vb := r2 q3
    have ea : tSl l (i + 1) (tE l (i + 1)) = tS l (i + 1) := tS_sl l (i + 1)
    have eb : tSl l (tE l (i + 1)) (tE l i) = tS l (tE l (i + 1)) := by rw [q5]; exact tS_sl l (tE l (i + 1))
    have eab : tSl l (i + 1) (tE l i) = tS l (i + 1) ++ tS l (tE l (i + 1)) := by
      rw [tSl_app (l := l) (a := i + 1) (b := tE l (i + 1)) (c := tE l i) (by omega) (by omega), ea, eb]
    have n83 : ¬ tRule l i = 115 → ¬ l.getD i 32 = 83 := fun hn z => hn (tRule_83 z)
    rcases hh with hr | hr | hr | hr | hr | ⟨hr, hk⟩ | hr | hr
    · have h68 := tRule_100 hr
      rw [h68] at es
      rw [hr, tBody_100, ea, eb, es]
      generalize tS l (i + 1) = a at va
      generalize tS l (tE l (i + 1)) = b at vb
      refine Or.inl ⟨?_, ?_⟩
      · show mC (73 :: (a ++ [67] ++ b)) [c] < _
        rw [List.append_assoc, mC_2 (k := 73) rfl, mC_V va, mC_2 (k := 68) rfl, mC_V va]
        show (2 * (1 + c) + 0) + (mC a [c] + mC (67 :: b) [c]) < 2 * (1 + c) + 2 + (mC a [c] + mC b [c + 1])
        rw [mC_1 (k := 67) rfl]
        omega
      · show mT (73 :: (a ++ [67] ++ b)) 0 ≤ _
        rw [List.append_assoc, mT_1 (k := 73) (by decide), mT_V va, mT_1 (k := 68) (by decide), mT_V va]
        show mT a 0 + mT (67 :: b) 0 ≤ _
        rw [mT_1 (k := 67) (by decide)]
        exact Nat.le_refl _
    · have h83 := tRule_115 hr
      rw [h83] at es
      rw [hr, tBody_115, eab, ea, eb] at h40
      rw [hr, tBody_115, eab, ea, eb, es]
      generalize tS l (i + 1) = a at va h40
      generalize tS l (tE l (i + 1)) = b at vb h40
      refine Or.inr ?_
      have hl : a.length + b.length ≤ 18 := by
        simp only [List.length_append, List.length_cons, List.length_nil] at h40
        omega
      have ta := (mT_le _ a (Nat.le_refl _) va).1
      have tb := (mT_le _ b (Nat.le_refl _) vb).1
      rw [mT_sum va vb, if_pos hl, mW_sum va vb]
      have e : [85, 68] ++ (a ++ b) ++ [68] ++ b ++ a = 85 :: 68 :: (a ++ (b ++ (68 :: (b ++ a)))) := by simp only [List.append_assoc, List.cons_append, List.nil_append]
      rw [e, mT_1 (k := 85) (by decide), mT_1 (k := 68) (by decide), mT_V va, mT_V vb, mT_1 (k := 68) (by decide), mT_V vb]
      omega
    · rw [hr, tBody_111, ea, eb, es]
      have hl := mLess_2 ha va vb (n83 (by rw [hr]; decide)) c
      split
      · exact hl.2
      · exact hl.1
    · rw [hr, tBody_121, ea, eb, es]
      have hl := mLess_2 ha va vb (n83 (by rw [hr]; decide)) c
      split
      · exact hl.2
      · exact hl.1
    · rw [hr, tBody_112, ea, es]
      exact (mLess_2 ha va vb (n83 (by rw [hr]; decide)) c).1
    · rw [hr, tBody_99, es]
      have hp : 0 < mC (l.getD i 32 :: (tS l (i + 1) ++ tS l (tE l (i + 1)))) [c] := by rw [mC_2 ha]; omega
      split
      · exact mLess_0 c 49 rfl hp
      · exact mLess_0 c 48 rfl hp
    · rw [hr, tBody_116, es]
      exact mLess_0 c 49 rfl (by rw [mC_2 ha]; omega)
    · rw [hr, tBody_122, es]
      exact mLess_0 c 48 rfl (by rw [mC_2 ha]; omega)
/-- a step at the first place, to a text of 40 signs at most -/
theorem mQ_step {l : List Int32} (hv : tV l) {i : Nat} (hp : tPlace l = some i) (h40 : (tRew l i).length ≤ 40) : mQ (tRew l i) < mQ l := by
  obtain ⟨hi, hru⟩ := tPlace_lt hp
  have hlen := (tRew_len hv hi hru).1
  have hvn := tRew_V hv hi hru
  have hbd := (mQ_bound hvn h40).1
  have hB := tBody_run hv hi hru
  have hS : tV (tS l i) := by rw [← tS_sl]; exact tS_run hv hi
  have hl : l = l.take i ++ (tS l i ++ l.drop (tE l i)) := by
    rw [tS_eq]
    have e : l.drop (tE l i) = (l.drop i).drop (tE l i - i) := by
      rw [List.drop_drop]
      congr 1
      have := tE_gt hi
      omega
    rw [e, List.take_append_drop, List.take_append_drop]
  have hn : tRew l i = l.take i ++ (tBody l i (tRule l i) ++ l.drop (tE l i)) := List.append_assoc _ _ _
  have hpre : ∀ k ∈ l.take i, ¬ k = 83 := by
    intro k hk e
    obtain ⟨n, hn1, hn2⟩ := List.mem_iff_getElem.mp hk
    rw [List.length_take] at hn1
    have h0 := tFrom_before hp n (Nat.zero_le _) (by omega)
    have h1 : l.getD n 32 = 83 := by
      rw [List.getElem_take] at hn2
      rw [List.getD_eq_getElem?_getD, List.getElem?_eq_getElem (by omega), hn2, e]
      rfl
    rw [tRule_83 h1] at h0
    exact absurd h0 (by decide)
  obtain ⟨c, cs, hst⟩ : ∃ c cs, mS (l.take i) [0] = c :: cs := by
    have h := hv
    unfold tV at h
    rw [← List.take_append_drop i l, trun_app] at h
    cases ht : trun (l.take i) 1 with
    | none => rw [ht] at h; cases h
    | some m =>
      rw [ht] at h
      have h : trun (l.drop i) m = some 0 := h
      have hm := mS_len (l.take i) [0] m ht
      cases hq : mS (l.take i) [0] with
      | cons c cs => exact ⟨c, cs, rfl⟩
      | nil =>
        rw [hq] at hm
        have hm : m = 0 := hm.symm
        rw [hm, List.drop_eq_getElem_cons hi] at h
        cases h
  have k1 : mC l [0] = mC (l.take i) [0] + (mC (tS l i) [c] + mC (l.drop (tE l i)) cs) := by
    conv => lhs; rw [hl]
    rw [mC_app, hst, mC_V hS]
  have k2 : mC (tRew l i) [0] = mC (l.take i) [0] + (mC (tBody l i (tRule l i)) [c] + mC (l.drop (tE l i)) cs) := by
    rw [hn, mC_app, hst, mC_V hB]
  have k3 : mT l 0 = mT (tS l i) 0 + mT (l.drop (tE l i)) 0 := by
    conv => lhs; rw [hl]
    rw [mT_pre _ _ hpre, mT_V hS]
  have k4 : mT (tRew l i) 0 = mT (tBody l i (tRule l i)) 0 + mT (l.drop (tE l i)) 0 := by
    rw [hn, mT_pre _ _ hpre, mT_V hB]
  unfold mQ
  rcases tBody_less hv hi hru (by omega) c with ⟨g1, g2⟩ | g
  · omega
  · omega