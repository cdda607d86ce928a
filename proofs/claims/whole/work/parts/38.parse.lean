/-! READING a text back into terms: as a function of rows -/
def tPar : Nat → List Int32 → List (Int32 × Int32 × Int32) → Option Nat × List (Int32 × Int32 × Int32) × List Int32
  | 0, l, rows => (none, rows, l)
  | _ + 1, [], rows => (none, rows, [])
  | f + 1, k :: l, rows =>
    if tAr k = 0 then ((rKnow rows k (-1) (-1)).1, (rKnow rows k (-1) (-1)).2, l)
    else match tPar f l rows with
      | (none, rows1, l1) => (none, rows1, l1)
      | (some a, rows1, l1) =>
        if tAr k = 1 then ((rKnow rows1 k (nI a) (-1)).1, (rKnow rows1 k (nI a) (-1)).2, l1)
        else match tPar f l1 rows1 with
          | (none, rows2, l2) => (none, rows2, l2)
          | (some b, rows2, l2) => ((rKnow rows2 k (nI a) (nI b)).1, (rKnow rows2 k (nI a) (nI b)).2, l2)
theorem tS_parts {l : List Int32} (hv : tV l) {p : Nat} (hp : p < l.length) : (tAr (l.getD p 32) = 0 → tS l p = [l.getD p 32]) ∧ (tAr (l.getD p 32) = 1 → tS l p = l.getD p 32 :: tS l (p + 1)) ∧ (tAr (l.getD p 32) = 2 → tS l p = l.getD p 32 :: (tS l (p + 1) ++ tS l (tE l (p + 1)))) := by
  obtain ⟨t0, t1, t2⟩ := tE_step hv hp
  have hd : l.drop p = l.getD p 32 :: l.drop (p + 1) := by
    rw [List.drop_eq_getElem_cons hp]
    congr 1
    rw [List.getD_eq_getElem?_getD, List.getElem?_eq_getElem hp]
    rfl
  refine ⟨fun h => ?_, fun h => ?_, fun h => ?_⟩
  · rw [tS_eq, t0 h, hd, show p + 1 - p = 1 by omega]
    rfl
  · obtain ⟨h1, h2⟩ := t1 h
    have := tE_gt h1
    rw [tS_eq, hd, h2, show tE l (p + 1) - p = (tE l (p + 1) - (p + 1)) + 1 by omega, List.take_succ_cons, ← tS_eq]
  · obtain ⟨h1, h2, h3⟩ := t2 h
    have g1 := tE_gt h1
    have g2 := tE_gt h2
    rw [tS_eq, hd, h3, show tE l (tE l (p + 1)) - p = (tE l (tE l (p + 1)) - (p + 1)) + 1 by omega, List.take_succ_cons]
    congr 1
    have := tSl_app (l := l) (a := p + 1) (b := tE l (p + 1)) (c := tE l (tE l (p + 1))) (by omega) (by omega)
    rw [tS_sl, tS_sl] at this
    exact this
/-- signs of terms all over a text -/
def gSl (l : List Int32) : Prop := ∀ k ∈ l, gSg k
theorem gSl_app {a b : List Int32} (ha : gSl a) (hb : gSl b) : gSl (a ++ b) := fun k hk => (List.mem_append.mp hk).elim (ha k) (hb k)
theorem gSl_1 {k : Int32} (h : gSg k) : gSl [k] := fun j hj => by
  rw [List.mem_singleton] at hj
  subst hj
  exact h
theorem gSl_2 {k j : Int32} (h : gSg k) (h2 : gSg j) : gSl [k, j] := gSl_app (gSl_1 h) (gSl_1 h2)
theorem gSl_s {l : List Int32} (hc : gSl l) (a b : Nat) : gSl (tSl l a b) := fun k hk => hc k (List.mem_of_mem_drop (List.mem_of_mem_take hk))
theorem gSg_48 : gSg 48 := by simp [gSg]
theorem gSg_49 : gSg 49 := by simp [gSg]
theorem gSg_67 : gSg 67 := by simp [gSg]
theorem gSg_68 : gSg 68 := by simp [gSg]
theorem gSg_73 : gSg 73 := by simp [gSg]
theorem gSg_85 : gSg 85 := by simp [gSg]
theorem tBody_sg {l : List Int32} (hc : gSl l) (i : Nat) (ru : Int32) : gSl (tBody l i ru) := by
  have s := gSl_s hc
  unfold tBody
  split
  · exact s _ _
  · split
    · exact gSl_app (gSl_app (gSl_app (gSl_2 gSg_73 gSg_67) (s _ _)) (gSl_1 gSg_67)) (s _ _)
    · split
      · exact gSl_app (gSl_app (gSl_app (gSl_2 gSg_85 gSg_67) (s _ _)) (gSl_1 gSg_67)) (s _ _)
      · split
        · exact gSl_app (gSl_app (gSl_app (gSl_1 gSg_73) (s _ _)) (gSl_1 gSg_67)) (s _ _)
        · split
          · exact gSl_app (gSl_app (gSl_app (gSl_app (gSl_2 gSg_85 gSg_68) (s _ _)) (gSl_1 gSg_68)) (s _ _)) (s _ _)
          · split
            · split <;> exact s _ _
            · split
              · split <;> exact s _ _
              · split
                · exact s _ _
                · split
                  · split
                    · exact gSl_1 gSg_49
                    · exact gSl_1 gSg_48
                  · split
                    · exact gSl_1 gSg_49
                    · exact gSl_1 gSg_48
theorem tRew_sg {l : List Int32} (hc : gSl l) (i : Nat) : gSl (tRew l i) := gSl_app (gSl_app (fun k hk => hc k (List.mem_of_mem_take hk)) (tBody_sg hc i _)) (fun k hk => hc k (List.mem_of_mem_drop hk))
theorem gTb.sg {K L R S : Nat → Int32} {n : Nat} {sp : Nat → List Int32} (h : gTb K L R S n sp) : ∀ t, t < n → gSl (sp t) := by
  intro t
  induction t using Nat.strongRecOn with
  | _ t ih =>
    intro ht
    obtain ⟨-, -, hk, hr⟩ := h.2 t ht
    rcases hr with ⟨ha, -, -, hs⟩ | ⟨ha, -, a, hat, -, hs⟩ | ⟨ha, a, b, hat, hbt, -, -, hs⟩
    · rw [hs]; exact gSl_1 hk
    · rw [hs]; exact gSl_app (gSl_1 hk) (ih a hat (by omega))
    · rw [hs]; exact gSl_app (gSl_1 hk) (gSl_app (ih a hat (by omega)) (ih b hbt (by omega)))
theorem gSl_at {l : List Int32} (h : gSl l) {p : Nat} (hp : p < l.length) : gSg (l.getD p 32) := by
  rw [List.getD_eq_getElem?_getD, List.getElem?_eq_getElem hp]
  exact h _ (List.getElem_mem hp)
/-- what reading leaves: more rows, the term's number and what it spells -/
def gPr (l : List Int32) (p : Nat) (rows : List (Int32 × Int32 × Int32)) (sp : Nat → List Int32) (res : Option Nat × List (Int32 × Int32 × Int32) × List Int32) (sp' : Nat → List Int32) : Prop := (∀ t, t < rows.length → sp' t = sp t) ∧ (∃ more, res.2.1 = rows ++ more) ∧ (∀ j, res.1 = some j → j < res.2.1.length ∧ sp' j = tS l p ∧ res.2.2 = l.drop (tE l p))
theorem rSp_0 (sp : Nat → List Int32) (n : Nat) (k : Int32) : rSp sp n k (-1) (-1) = [k] := by
  unfold rSp
  rw [gT_m1]
  rfl
theorem rSp_1 (sp : Nat → List Int32) {n a : Nat} (ha : a < n) (hn : n ≤ 120) (k : Int32) : rSp sp n k (nI a) (-1) = k :: sp a := by
  unfold rSp
  rw [gT_m1, gT_nI ha hn]
  simp
theorem rSp_2 (sp : Nat → List Int32) {n a b : Nat} (ha : a < n) (hb : b < n) (hn : n ≤ 120) (k : Int32) : rSp sp n k (nI a) (nI b) = k :: (sp a ++ sp b) := by
  unfold rSp
  rw [gT_nI ha hn, gT_nI hb hn]