/-! REWRITING: a rule's shape, and that it makes a term of a term -/
theorem tS_sl (l : List Int32) (i : Nat) : tSl l i (tE l i) = tS l i := (tS_eq l i).symm
theorem tS_run {l : List Int32} (h : tV l) {i : Nat} (hi : i < l.length) : trun (tSl l i (tE l i)) 1 = some 0 := by
  obtain ⟨c, hc⟩ := tV_at h hi
  rw [tS_sl]
  exact (tlen_split hc).1
theorem tSl_app {l : List Int32} {a b c : Nat} (h1 : a ≤ b) (h2 : b ≤ c) : tSl l a c = tSl l a b ++ tSl l b c := by
  unfold tSl
  rw [show l.drop b = (l.drop a).drop (b - a) by rw [List.drop_drop]; congr 1; omega]
  rw [show c - a = (b - a) + (c - b) by omega, List.take_add]
theorem trun_cons {k : Int32} {x : List Int32} {c : Nat} : trun (k :: x) (c + 1) = trun x (c + tAr k) := rfl
theorem trun_1 {x : List Int32} (h : trun x 1 = some 0) (c : Nat) : trun x (c + 1) = some c := by
  have := trun_shift c h
  rw [Nat.add_comm 1 c, Nat.zero_add] at this
  exact this
theorem tV_repl {l b : List Int32} (h : tV l) {i : Nat} (hi : i < l.length) (hb : trun b 1 = some 0) : tV (l.take i ++ b ++ l.drop (tE l i)) := by
  have h0 := h
  unfold tV at h ⊢
  rw [← List.take_append_drop i l, trun_app] at h
  cases ht : trun (l.take i) 1 with
  | none => rw [ht] at h; cases h
  | some c =>
    rw [ht] at h
    have h : trun (l.drop i) c = some 0 := h
    cases c with
    | zero =>
      exfalso
      rw [List.drop_eq_getElem_cons hi] at h
      simp [trun] at h
    | succ c =>
      have hc : trun (l.drop i) (1 + c) = some 0 := by rw [Nat.add_comm 1 c]; exact h
      obtain ⟨-, e2, -⟩ := tlen_split hc
      rw [List.drop_drop] at e2
      rw [List.append_assoc, trun_app, ht]
      show trun (b ++ l.drop (tE l i)) (c + 1) = some 0
      rw [trun_app, trun_1 hb c]
      exact e2
theorem tRule_shape {l : List Int32} {i : Nat} (h : ¬ tRule l i = 32) : (l.getD i 32 = 67 ∧ ((tRule l i = 110 ∧ l.getD (i + 1) 32 = 67) ∨ (tRule l i = 101 ∧ l.getD (i + 1) 32 = 48) ∨ (tRule l i = 118 ∧ l.getD (i + 1) 32 = 49) ∨ (tRule l i = 105 ∧ l.getD (i + 1) 32 = 73) ∨ (tRule l i = 117 ∧ l.getD (i + 1) 32 = 85))) ∨ (tAr (l.getD i 32) = 2 ∧ (tRule l i = 100 ∨ tRule l i = 115 ∨ tRule l i = 111 ∨ tRule l i = 121 ∨ tRule l i = 112 ∨ (tRule l i = 99 ∧ (l.getD i 32 = 73 ∨ l.getD i 32 = 85)) ∨ tRule l i = 116 ∨ tRule l i = 122)) := by
  unfold tRule at h ⊢
  by_cases c67 : l.getD i 32 = 67
  · refine Or.inl ⟨c67, ?_⟩
    rw [if_pos c67] at h ⊢
    unfold tC at h ⊢
    by_cases c48 : l.getD (i + 1) 32 = 48
    · rw [if_pos c48]; exact Or.inr (Or.inl ⟨rfl, c48⟩)
    · by_cases c49 : l.getD (i + 1) 32 = 49
      · rw [if_neg c48, if_pos c49]; exact Or.inr (Or.inr (Or.inl ⟨rfl, c49⟩))
      · by_cases d67 : l.getD (i + 1) 32 = 67
        · rw [if_neg c48, if_neg c49, if_pos d67]; exact Or.inl ⟨rfl, d67⟩
        · by_cases c73 : l.getD (i + 1) 32 = 73
          · rw [if_neg c48, if_neg c49, if_neg d67, if_pos c73]; exact Or.inr (Or.inr (Or.inr (Or.inl ⟨rfl, c73⟩)))
          · by_cases c85 : l.getD (i + 1) 32 = 85
            · rw [if_neg c48, if_neg c49, if_neg d67, if_neg c73, if_pos c85]; exact Or.inr (Or.inr (Or.inr (Or.inr ⟨rfl, c85⟩)))
            · rw [if_neg c48, if_neg c49, if_neg d67, if_neg c73, if_neg c85] at h
              exact absurd rfl h
  · refine Or.inr ?_
    rw [if_neg c67] at h ⊢
    by_cases c68 : l.getD i 32 = 68
    · rw [if_pos c68]
      exact ⟨by rw [c68]; rfl, Or.inl rfl⟩
    · rw [if_neg c68] at h ⊢
      by_cases c73 : l.getD i 32 = 73
      · refine ⟨by rw [c73]; rfl, ?_⟩
        rw [if_pos c73] at h ⊢
        unfold tPair at h ⊢
        split
        · exact Or.inr (Or.inr (Or.inr (Or.inr (Or.inr (Or.inr (Or.inr rfl))))))
        · rename_i c1
          rw [if_neg c1] at h
          split
          · exact Or.inr (Or.inr (Or.inl rfl))
          · rename_i c2
            rw [if_neg c2] at h
            split
            · exact Or.inr (Or.inr (Or.inr (Or.inr (Or.inl rfl))))
            · rename_i c3
              rw [if_neg c3] at h
              split
              · exact Or.inr (Or.inr (Or.inr (Or.inr (Or.inr (Or.inl ⟨rfl, Or.inl c73⟩)))))
              · rename_i c4
                rw [if_neg c4] at h
                exact absurd rfl h
      · rw [if_neg c73] at h ⊢
        by_cases c83 : l.getD i 32 = 83
        · rw [if_pos c83]
          exact ⟨by rw [c83]; rfl, Or.inr (Or.inl rfl)⟩
        · rw [if_neg c83] at h ⊢
          by_cases c85 : l.getD i 32 = 85
          · refine ⟨by rw [c85]; rfl, ?_⟩
            rw [if_pos c85] at h ⊢
            unfold tPair at h ⊢
            split
            · exact Or.inr (Or.inr (Or.inr (Or.inl rfl)))
            · rename_i c1
              rw [if_neg c1] at h
              split
              · exact Or.inr (Or.inr (Or.inr (Or.inr (Or.inr (Or.inr (Or.inl rfl))))))
              · rename_i c2
                rw [if_neg c2] at h
                split
                · exact Or.inr (Or.inr (Or.inr (Or.inr (Or.inl rfl))))
                · rename_i c3
                  rw [if_neg c3] at h
                  split
                  · exact Or.inr (Or.inr (Or.inr (Or.inr (Or.inr (Or.inl ⟨rfl, Or.inr c85⟩)))))
                  · rename_i c4
                    rw [if_neg c4] at h
                    exact absurd rfl h
          · rw [if_neg c85] at h
            exact absurd rfl h
/-- where the parts stand, by the rule's kind -/
theorem tE_one {l : List Int32} (hv : tV l) {i : Nat} (hi : i < l.length) (h : l.getD i 32 = 67) : i + 1 < l.length ∧ tE l i = tE l (i + 1) := (tE_step hv hi).2.1 (by rw [h]; rfl)
theorem tE_two {l : List Int32} (hv : tV l) {i : Nat} (hi : i < l.length) (h : tAr (l.getD i 32) = 2) : i + 1 < l.length ∧ i + 1 < tE l (i + 1) ∧ tE l (i + 1) < l.length ∧ tE l (i + 1) < tE l i ∧ tE l i = tE l (tE l (i + 1)) ∧ tE l i ≤ l.length := by
  obtain ⟨h1, h2, h3⟩ := (tE_step hv hi).2.2 h
  exact ⟨h1, tE_gt h1, h2, by rw [h3]; exact tE_gt h2, h3, tE_le (Nat.le_of_lt hi)⟩
theorem tBody_110 (l : List Int32) (i : Nat) : tBody l i 110 = tSl l (i + 2) (tE l i) := by unfold tBody; rw [if_pos rfl]
theorem tBody_117 (l : List Int32) (i : Nat) : tBody l i 117 = [73, 67] ++ tSl l (i + 2) (tE l (i + 2)) ++ [67] ++ tSl l (tE l (i + 2)) (tE l i) := by unfold tBody; rw [if_neg (by decide), if_pos rfl]
theorem tBody_105 (l : List Int32) (i : Nat) : tBody l i 105 = [85, 67] ++ tSl l (i + 2) (tE l (i + 2)) ++ [67] ++ tSl l (tE l (i + 2)) (tE l i) := by unfold tBody; rw [if_neg (by decide), if_neg (by decide), if_pos rfl]
theorem tBody_100 (l : List Int32) (i : Nat) : tBody l i 100 = [73] ++ tSl l (i + 1) (tE l (i + 1)) ++ [67] ++ tSl l (tE l (i + 1)) (tE l i) := by unfold tBody; rw [if_neg (by decide), if_neg (by decide), if_neg (by decide), if_pos rfl]
theorem tBody_115 (l : List Int32) (i : Nat) : tBody l i 115 = [85, 68] ++ tSl l (i + 1) (tE l i) ++ [68] ++ tSl l (tE l (i + 1)) (tE l i) ++ tSl l (i + 1) (tE l (i + 1)) := by unfold tBody; rw [if_neg (by decide), if_neg (by decide), if_neg (by decide), if_neg (by decide), if_pos rfl]
theorem tBody_111 (l : List Int32) (i : Nat) : tBody l i 111 = (if l.getD (i + 1) 32 = 49 then tSl l (tE l (i + 1)) (tE l i) else tSl l (i + 1) (tE l (i + 1))) := by unfold tBody; rw [if_neg (by decide), if_neg (by decide), if_neg (by decide), if_neg (by decide), if_neg (by decide), if_pos rfl]
theorem tBody_121 (l : List Int32) (i : Nat) : tBody l i 121 = (if l.getD (i + 1) 32 = 48 then tSl l (tE l (i + 1)) (tE l i) else tSl l (i + 1) (tE l (i + 1))) := by unfold tBody; rw [if_neg (by decide), if_neg (by decide), if_neg (by decide), if_neg (by decide), if_neg (by decide), if_neg (by decide), if_pos rfl]
theorem tBody_112 (l : List Int32) (i : Nat) : tBody l i 112 = tSl l (i + 1) (tE l (i + 1)) := by unfold tBody; rw [if_neg (by decide), if_neg (by decide), if_neg (by decide), if_neg (by decide), if_neg (by decide), if_neg (by decide), if_neg (by decide), if_pos rfl]
theorem tBody_99 (l : List Int32) (i : Nat) : tBody l i 99 = (if l.getD i 32 = 85 then [49] else [48]) := by unfold tBody; rw [if_neg (by decide), if_neg (by decide), if_neg (by decide), if_neg (by decide), if_neg (by decide), if_neg (by decide), if_neg (by decide), if_neg (by decide), if_pos rfl]
theorem tBody_101 (l : List Int32) (i : Nat) : tBody l i 101 = [49] := by unfold tBody; rw [if_neg (by decide), if_neg (by decide), if_neg (by decide), if_neg (by decide), if_neg (by decide), if_neg (by decide), if_neg (by decide), if_neg (by decide), if_neg (by decide), if_pos (by decide)]
theorem tBody_116 (l : List Int32) (i : Nat) : tBody l i 116 = [49] := by unfold tBody; rw [if_neg (by decide), if_neg (by decide), if_neg (by decide), if_neg (by decide), if_neg (by decide), if_neg (by decide), if_neg (by decide), if_neg (by decide), if_neg (by decide), if_pos (by decide)]
theorem tBody_118 (l : List Int32) (i : Nat) : tBody l i 118 = [48] := by unfold tBody; rw [if_neg (by decide), if_neg (by decide), if_neg (by decide), if_neg (by decide), if_neg (by decide), if_neg (by decide), if_neg (by decide), if_neg (by decide), if_neg (by decide), if_neg (by decide)]
theorem tBody_122 (l : List Int32) (i : Nat) : tBody l i 122 = [48] := by unfold tBody; rw [if_neg (by decide), if_neg (by decide), if_neg (by decide), if_neg (by decide), if_neg (by decide), if_neg (by decide), if_neg (by decide), if_neg (by decide), if_neg (by decide), if_neg (by decide)]
/-- a rule makes a term of a term -/
theorem tBody_run {l : List Int32} (hv : tV l) {i : Nat} (hi : i < l.length) (h : ¬ tRule l i = 32) : trun (tBody l i (tRule l i)) 1 = some 0 := by
  have r2 : ∀ {p : Nat}, p < l.length → trun (tSl l p (tE l p)) 1 = some 0 := fun hp => tS_run hv hp
  rcases tRule_shape h with ⟨h67, hh⟩ | ⟨ha, hh⟩
  · obtain ⟨p1, p2⟩ := tE_one hv hi h67
    rcases hh with ⟨hr, hk⟩ | ⟨hr, hk⟩ | ⟨hr, hk⟩ | ⟨hr, hk⟩ | ⟨hr, hk⟩
    · obtain ⟨q1, q2⟩ := tE_one hv p1 hk
      rw [hr, tBody_110, p2, q2]
      exact r2 q1
    · rw [hr, tBody_101]; rfl
    · rw [hr, tBody_118]; rfl
    · obtain ⟨q1, q2, q3, q4, q5, q6⟩ := tE_two hv p1 (by rw [hk]; rfl)
      rw [hr, tBody_105, p2, q5]
      simp only [List.cons_append, List.nil_append, List.append_assoc]
      show trun (tSl l (i + 2) (tE l (i + 2)) ++ _) (1 + 1) = some 0
      rw [trun_app, trun_1 (r2 q1) 1]
      exact r2 q3
    · obtain ⟨q1, q2, q3, q4, q5, q6⟩ := tE_two hv p1 (by rw [hk]; rfl)
      rw [hr, tBody_117, p2, q5]
      simp only [List.cons_append, List.nil_append, List.append_assoc]
      show trun (tSl l (i + 2) (tE l (i + 2)) ++ _) (1 + 1) = some 0
      rw [trun_app, trun_1 (r2 q1) 1]
      exact r2 q3
  · obtain ⟨q1, q2, q3, q4, q5, q6⟩ := tE_two hv hi ha
    have ra := r2 q1
    have rb := r2 q3
    rw [← q5] at rb
    rcases hh with hr | hr | hr | hr | hr | ⟨hr, hk⟩ | hr | hr
    · rw [hr, tBody_100]
      simp only [List.cons_append, List.nil_append, List.append_assoc]
      show trun (tSl l (i + 1) (tE l (i + 1)) ++ _) (1 + 1) = some 0
      rw [trun_app, trun_1 ra 1]
      exact rb
    · rw [hr, tBody_115, tSl_app (l := l) (a := i + 1) (b := tE l (i + 1)) (c := tE l i) (by omega) (by omega)]
      simp only [List.cons_append, List.nil_append, List.append_assoc]
      show trun (tSl l (i + 1) (tE l (i + 1)) ++ _) (2 + 1) = some 0
      rw [trun_app, trun_1 ra 2]
      show trun (tSl l (tE l (i + 1)) (tE l i) ++ _) (1 + 1) = some 0
      rw [trun_app, trun_1 rb 1]
      show trun (tSl l (tE l (i + 1)) (tE l i) ++ _) (1 + 1) = some 0
      rw [trun_app, trun_1 rb 1]
      exact ra
    · rw [hr, tBody_111]
      split
      · exact rb
      · exact ra
    · rw [hr, tBody_121]
      split
      · exact rb
      · exact ra
    · rw [hr, tBody_112]
      exact ra
    · rw [hr, tBody_99]
      split <;> rfl
    · rw [hr, tBody_116]; rfl
    · rw [hr, tBody_122]; rfl
theorem tRew_V {l : List Int32} (hv : tV l) {i : Nat} (hi : i < l.length) (h : ¬ tRule l i = 32) : tV (tRew l i) := tV_repl hv hi (tBody_run hv hi h)
theorem tSl_ch {l : List Int32} (hc : gCh l) (a b : Nat) : gCh (tSl l a b) := fun k hk => hc k (List.mem_of_mem_drop (List.mem_of_mem_take hk))
theorem gCh_app {a b : List Int32} (ha : gCh a) (hb : gCh b) : gCh (a ++ b) := fun k hk => (List.mem_append.mp hk).elim (ha k) (hb k)
theorem gCh_1 {k : Int32} (h : 0 ≤ k ∧ k ≤ 65535) : gCh [k] := fun j hj => by
  rw [List.mem_singleton] at hj
  subst hj
  exact h
theorem gCh_2 {k j : Int32} (h : 0 ≤ k ∧ k ≤ 65535) (h2 : 0 ≤ j ∧ j ≤ 65535) : gCh [k, j] := gCh_app (gCh_1 h) (gCh_1 h2)
theorem tBody_ch {l : List Int32} (hc : gCh l) (i : Nat) (ru : Int32) : gCh (tBody l i ru) := by
  have s := tSl_ch hc
  unfold tBody
  split
  · exact s _ _
  · split
    · exact gCh_app (gCh_app (gCh_app (gCh_2 (by decide) (by decide)) (s _ _)) (gCh_1 (by decide))) (s _ _)
    · split
      · exact gCh_app (gCh_app (gCh_app (gCh_2 (by decide) (by decide)) (s _ _)) (gCh_1 (by decide))) (s _ _)
      · split
        · exact gCh_app (gCh_app (gCh_app (gCh_1 (by decide)) (s _ _)) (gCh_1 (by decide))) (s _ _)
        · split
          · exact gCh_app (gCh_app (gCh_app (gCh_app (gCh_2 (by decide) (by decide)) (s _ _)) (gCh_1 (by decide))) (s _ _)) (s _ _)
          · split
            · split <;> exact s _ _
            · split
              · split <;> exact s _ _
              · split
                · exact s _ _
                · split
                  · split <;> exact gCh_1 (by decide)
                  · split <;> exact gCh_1 (by decide)
theorem tRew_ch {l : List Int32} (hc : gCh l) (i : Nat) : gCh (tRew l i) := gCh_app (gCh_app (fun k hk => hc k (List.mem_of_mem_take hk)) (tBody_ch hc i _)) (fun k hk => hc k (List.mem_of_mem_drop hk))
/-- how long it may get -/
theorem tBody_len {l : List Int32} (hv : tV l) {i : Nat} (hi : i < l.length) (h : ¬ tRule l i = 32) : (tBody l i (tRule l i)).length ≤ 2 * (tE l i - i) + 1 := by
  have hg := tE_gt hi
  have hl := tE_le (l := l) (Nat.le_of_lt hi)
  rcases tRule_shape h with ⟨h67, hh⟩ | ⟨ha, hh⟩
  · obtain ⟨p1, p2⟩ := tE_one hv hi h67
    rcases hh with ⟨hr, hk⟩ | ⟨hr, hk⟩ | ⟨hr, hk⟩ | ⟨hr, hk⟩ | ⟨hr, hk⟩
    · rw [hr, tBody_110, tSl_len hl]; omega
    · rw [hr, tBody_101]; simp
    · rw [hr, tBody_118]; simp
    · obtain ⟨q1, q2, q3, q4, q5, q6⟩ := tE_two hv p1 (by rw [hk]; rfl)
      have e2 : i + 1 + 1 = i + 2 := rfl
      rw [e2] at q2 q3 q4
      rw [hr, tBody_105]
      simp only [List.length_append, List.length_cons, List.length_nil, tSl_len hl, tSl_len (Nat.le_of_lt q3)]
      omega
    · obtain ⟨q1, q2, q3, q4, q5, q6⟩ := tE_two hv p1 (by rw [hk]; rfl)
      have e2 : i + 1 + 1 = i + 2 := rfl
      rw [e2] at q2 q3 q4
      rw [hr, tBody_117]
      simp only [List.length_append, List.length_cons, List.length_nil, tSl_len hl, tSl_len (Nat.le_of_lt q3)]
      omega
  · obtain ⟨q1, q2, q3, q4, q5, q6⟩ := tE_two hv hi ha
    rcases hh with hr | hr | hr | hr | hr | ⟨hr, hk⟩ | hr | hr
    · rw [hr, tBody_100]
      simp only [List.length_append, List.length_cons, List.length_nil, tSl_len hl, tSl_len (Nat.le_of_lt q3)]
      omega
    · rw [hr, tBody_115]
      simp only [List.length_append, List.length_cons, List.length_nil, tSl_len hl, tSl_len (Nat.le_of_lt q3)]
      omega
    · rw [hr, tBody_111]
      split
      · rw [tSl_len hl]; omega
      · rw [tSl_len (Nat.le_of_lt q3)]; omega
    · rw [hr, tBody_121]
      split
      · rw [tSl_len hl]; omega
      · rw [tSl_len (Nat.le_of_lt q3)]; omega
    · rw [hr, tBody_112, tSl_len (Nat.le_of_lt q3)]; omega
    · rw [hr, tBody_99]
      split <;> simp
    · rw [hr, tBody_116]; simp
    · rw [hr, tBody_122]; simp
theorem tRew_len {l : List Int32} (hv : tV l) {i : Nat} (hi : i < l.length) (h : ¬ tRule l i = 32) : (tRew l i).length = i + (tBody l i (tRule l i)).length + (l.length - tE l i) ∧ (tRew l i).length ≤ 2 * l.length + 1 := by
  have hb := tBody_len hv hi h
  have hg := tE_gt hi
  have hl := tE_le (l := l) (Nat.le_of_lt hi)
  have e : (tRew l i).length = i + (tBody l i (tRule l i)).length + (l.length - tE l i) := by
    unfold tRew
    simp only [List.length_append, List.length_take, List.length_drop]
    omega
  exact ⟨e, by omega⟩
theorem tRew_pos {l : List Int32} (hv : tV l) {i : Nat} (hi : i < l.length) (h : ¬ tRule l i = 32) : 0 < (tRew l i).length := by
  have := trun_le (tRew_V hv hi h)
  omega