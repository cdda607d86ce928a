/-! CUBES: prime implicants by joining are those by trying -/
def cT : List Nat := [65535, 255, 65280, 3855, 15, 3840, 61680, 240, 61440, 13107, 51, 13056, 771, 3, 768, 12336, 48, 12288, 52428, 204, 52224, 3084, 12, 3072, 49344, 192, 49152, 21845, 85, 21760, 1285, 5, 1280, 20560, 80, 20480, 4369, 17, 4352, 257, 1, 256, 4112, 16, 4096, 17476, 68, 17408, 1028, 4, 1024, 16448, 64, 16384, 43690, 170, 43520, 2570, 10, 2560, 41120, 160, 40960, 8738, 34, 8704, 514, 2, 512, 8224, 32, 8192, 34952, 136, 34816, 2056, 8, 2048, 32896, 128, 32768]
def cTn (c : Nat) : Nat := cT.getD c 0
def dN (c j : Nat) : Nat := c / wN j % 3
theorem cT_reg : ∀ c, c < 81 → cReg (nI c) 16 0 0 = nI (cTn c) := by decide +kernel
theorem cT_lt : ∀ c, c < 81 → cTn c < 65536 := by decide +kernel
theorem dN_0 : ∀ c, c < 81 → ∀ j, j < 4 → (cDg (nI c) (nI j) = 0 ↔ dN c j = 0) := by decide +kernel
theorem cF1 : ∀ c, c < 81 → cSin (nI c) 4 0 = true → ∃ r, r < 16 ∧ cTn c = 2 ^ r := by decide +kernel
theorem cF2 : ∀ c, c < 81 → ∀ j, j < 4 → dN c j = 0 → c + wN j + wN j < 81 ∧ cTn c = cTn (c + wN j) ||| cTn (c + wN j + wN j) := by decide +kernel
theorem cF3 : ∀ c, c < 81 → cSin (nI c) 4 0 = false → ∃ j, j < 4 ∧ dN c j = 0 := by decide +kernel
theorem cF5b : ∀ c, c < 81 → ∀ o, o < 81 → (Nat.beq o c || !(Nat.beq (cTn c &&& cTn o) (cTn c)) || ((List.range 4).any fun j => !(Nat.beq (dN c j) 0) && Nat.beq (cTn (c - dN c j * wN j) &&& cTn o) (cTn (c - dN c j * wN j)))) = true := by decide +kernel
theorem cF5 (c : Nat) (hc : c < 81) (o : Nat) (ho : o < 81) (h1 : ¬ o = c) (h2 : cTn c &&& cTn o = cTn c) : ∃ j, j < 4 ∧ ¬ dN c j = 0 ∧ cTn (c - dN c j * wN j) &&& cTn o = cTn (c - dN c j * wN j) := by
  have h := cF5b c hc o ho
  rw [Bool.or_eq_true, Bool.or_eq_true, Bool.not_eq_true', List.any_eq_true] at h
  rcases h with (h | h) | ⟨j, hj, h⟩
  · exact absurd (Nat.eq_of_beq_eq_true h) h1
  · exact absurd h2 (Nat.ne_of_beq_eq_false h)
  · rw [Bool.and_eq_true, Bool.not_eq_true'] at h
    exact ⟨j, List.mem_range.mp hj, Nat.ne_of_beq_eq_false h.1, Nat.eq_of_beq_eq_true h.2⟩
theorem cF7 : ∀ c, c < 81 → ∀ j, j < 4 → ¬ dN c j = 0 → c - dN c j * wN j < 81 ∧ dN (c - dN c j * wN j) j = 0 ∧ (c = c - dN c j * wN j + wN j ∨ c = c - dN c j * wN j + wN j + wN j) := by decide +kernel
theorem tb2 : ∀ n, n < 16 → ∀ m, m < 32 → Nat.testBit (2 ^ n) m = decide (n = m) := by decide +kernel
theorem wN_pos : ∀ j, j < 4 → 0 < wN j := by decide +kernel
section X
variable {A : Nat → Nat → Int32} {cov : Int32}
theorem cI_iff (hA : ∀ c, c < 81 → A 15 c = nI (cTn c)) {c : Nat} (hc : c < 81) : cIns A cov c = true ↔ ∀ r, r < 32 → (cTn c).testBit r = true → iB cov r = true := by
  unfold cIns
  rw [decide_eq_true_iff, hA c hc, iB_sub]
  constructor
  · intro h r hr ht
    exact h r hr (by rw [iB_nI _ hr]; exact ht)
  · intro h r hr ht
    rw [iB_nI _ hr] at ht
    exact h r hr ht
theorem cI_two (hA : ∀ c, c < 81 → A 15 c = nI (cTn c)) {c j : Nat} (hc : c < 81) (hj : j < 4) (h0 : dN c j = 0) : cIns A cov c = true ↔ (cIns A cov (c + wN j) = true ∧ cIns A cov (c + wN j + wN j) = true) := by
  obtain ⟨h1, h2⟩ := cF2 c hc j hj h0
  rw [cI_iff hA hc, cI_iff hA (by omega), cI_iff hA h1, h2]
  constructor
  · intro h
    exact ⟨fun r hr ht => h r hr (by rw [Nat.testBit_or, ht, Bool.true_or]), fun r hr ht => h r hr (by rw [Nat.testBit_or, ht, Bool.or_true])⟩
  · rintro ⟨ha, hb⟩ r hr ht
    rw [Nat.testBit_or, Bool.or_eq_true] at ht
    exact ht.elim (ha r hr) (hb r hr)
theorem cI_one (hA : ∀ c, c < 81 → A 15 c = nI (cTn c)) {c : Nat} (hc : c < 81) (hs : cSin (nI c) 4 0 = true) : cIns A cov c = true ↔ ¬ A 15 c &&& cov = 0 := by
  obtain ⟨r0, hr0, e⟩ := cF1 c hc hs
  rw [cI_iff hA hc, hA c hc, iB_meet, e]
  constructor
  · intro h
    have e0 : Nat.testBit (2 ^ r0) r0 = true := (tb2 r0 hr0 r0 (by omega)).trans (decide_eq_true rfl)
    exact ⟨r0, by omega, by rw [iB_nI _ (by omega), e0], h r0 (by omega) e0⟩
  · rintro ⟨r, hr, h1, h2⟩ s hs' ht
    rw [iB_nI _ hr, tb2 r0 hr0 r hr] at h1
    rw [tb2 r0 hr0 s hs'] at ht
    rw [← of_decide_eq_true ht, of_decide_eq_true h1]
    exact h2
theorem cI_le (hA : ∀ c, c < 81 → A 15 c = nI (cTn c)) {c o : Nat} (hc : c < 81) (ho : o < 81) (h : cTn c &&& cTn o = cTn c) (hi : cIns A cov o = true) : cIns A cov c = true := by
  rw [cI_iff hA hc]
  rw [cI_iff hA ho] at hi
  intro r hr ht
  rw [← h, Nat.testBit_and, Bool.and_eq_true] at ht
  exact hi r hr ht.2
/-- a cube's parent is an implicant: those from k on, and k's own by the letters below j -/
def cJJ (I : Nat → Bool) (k j c : Nat) : Prop := ∃ p i, p < 81 ∧ i < 4 ∧ dN p i = 0 ∧ (c = p + wN i ∨ c = p + wN i + wN i) ∧ I p = true ∧ (k < p ∨ (p = k ∧ i < j))
def cTF (x : Int32) (P : Prop) : Prop := (x = 1 ∧ P) ∨ (x = 0 ∧ ¬ P)
theorem cTF_iff {x : Int32} {P Q : Prop} (h : cTF x P) (e : P ↔ Q) : cTF x Q := h.elim (fun z => Or.inl ⟨z.1, e.mp z.2⟩) (fun z => Or.inr ⟨z.1, fun q => z.2 (e.mpr q)⟩)
def cInv (I : Nat → Bool) (k j : Nat) (A : Nat → Nat → Int32) : Prop := (∀ c, k < c → c < 81 → cTF (A 16 c) (I c = true)) ∧ cTF (A 16 k) (I k = true ∧ (cSin (nI k) 4 0 = true ∨ ∃ i, i < j ∧ dN k i = 0)) ∧ (∀ c, k < c → c < 81 → cTF (A 17 c) (cJJ I k j c)) ∧ A 17 k = 0
theorem cInv_step {A0 : Nat → Nat → Int32} (hA : ∀ c, c < 81 → A0 15 c = nI (cTn c)) {k j : Nat} (hk : k < 81) (hj : j < 4) {A : Nat → Nat → Int32} (h : cInv (cIns A0 cov) k j A) : cInv (cIns A0 cov) k (j + 1) (cjS A k j) := by
  obtain ⟨h1, h2, h3, h4⟩ := h
  unfold cjS
  by_cases c0 : cDg (nI k) (nI j) = 0
  · rw [if_pos c0]
    have d0 := (dN_0 k hk j hj).mp c0
    obtain ⟨b1, -⟩ := cF2 k hk j hj d0
    have hw := wN_pos j hj
    have two := cI_two (cov := cov) hA hk hj d0
    unfold cjA
    by_cases c1 : A 16 (k + wN j) = 0 ∨ A 16 (k + wN j + wN j) = 0
    · rw [if_pos c1]
      have hI : ¬ cIns A0 cov k = true := fun z => by
        obtain ⟨z1, z2⟩ := two.mp z
        rcases c1 with c1 | c1
        · rcases h1 (k + wN j) (by omega) (by omega) with e | e
          · rw [e.1] at c1; exact absurd c1 (by decide)
          · exact e.2 z1
        · rcases h1 (k + wN j + wN j) (by omega) (by omega) with e | e
          · rw [e.1] at c1; exact absurd c1 (by decide)
          · exact e.2 z2
      refine ⟨h1, cTF_iff h2 ⟨fun z => absurd z.1 hI, fun z => absurd z.1 hI⟩, fun c hc hc2 => cTF_iff (h3 c hc hc2) ?_, h4⟩
      constructor
      · rintro ⟨p, i, a1, a2, a3, a4, a5, a6⟩
        exact ⟨p, i, a1, a2, a3, a4, a5, a6.imp id (fun z => ⟨z.1, by omega⟩)⟩
      · rintro ⟨p, i, a1, a2, a3, a4, a5, a6⟩
        rcases a6 with a6 | ⟨a6, a7⟩
        · exact ⟨p, i, a1, a2, a3, a4, a5, Or.inl a6⟩
        · rw [a6] at a5
          exact absurd a5 hI
    · rw [if_neg c1]
      have hI : cIns A0 cov k = true := by
        refine two.mpr ⟨?_, ?_⟩
        · rcases h1 (k + wN j) (by omega) (by omega) with e | e
          · exact e.2
          · exact absurd (Or.inl e.1) c1
        · rcases h1 (k + wN j + wN j) (by omega) (by omega) with e | e
          · exact e.2
          · exact absurd (Or.inr e.1) c1
      have e16 : (va_up (va_up A 16 (upd (A 16) k 1)) 17 (upd (upd (A 17) (k + wN j) 1) (k + wN j + wN j) 1)) 16 = upd (A 16) k 1 := by rw [g_upn (by decide), g_upe]
      have e17 : (va_up (va_up A 16 (upd (A 16) k 1)) 17 (upd (upd (A 17) (k + wN j) 1) (k + wN j + wN j) 1)) 17 = upd (upd (A 17) (k + wN j) 1) (k + wN j + wN j) 1 := g_upe
      unfold cInv
      rw [e16, e17]
      refine ⟨fun c hc hc2 => ?_, ?_, fun c hc hc2 => ?_, ?_⟩
      · rw [show upd (A 16) k 1 c = A 16 c from if_neg (by omega)]
        exact h1 c hc hc2
      · rw [upd_at]
        exact Or.inl ⟨rfl, hI, Or.inr ⟨j, by omega, d0⟩⟩
      · by_cases e2 : c = k + wN j + wN j
        · rw [e2, upd_at]
          exact Or.inl ⟨rfl, k, j, hk, hj, d0, Or.inr rfl, hI, Or.inr ⟨rfl, by omega⟩⟩
        · by_cases e1 : c = k + wN j
          · rw [show upd (upd (A 17) (k + wN j) 1) (k + wN j + wN j) 1 c = upd (A 17) (k + wN j) 1 c from if_neg e2, e1, upd_at]
            exact Or.inl ⟨rfl, k, j, hk, hj, d0, Or.inl rfl, hI, Or.inr ⟨rfl, by omega⟩⟩
          · rw [show upd (upd (A 17) (k + wN j) 1) (k + wN j + wN j) 1 c = upd (A 17) (k + wN j) 1 c from if_neg e2, show upd (A 17) (k + wN j) 1 c = A 17 c from if_neg e1]
            refine cTF_iff (h3 c hc hc2) ?_
            constructor
            · rintro ⟨p, i, a1, a2, a3, a4, a5, a6⟩
              exact ⟨p, i, a1, a2, a3, a4, a5, a6.imp id (fun z => ⟨z.1, by omega⟩)⟩
            · rintro ⟨p, i, a1, a2, a3, a4, a5, a6⟩
              rcases a6 with a6 | ⟨a6, a7⟩
              · exact ⟨p, i, a1, a2, a3, a4, a5, Or.inl a6⟩
              · by_cases ij : i = j
                · rw [ij, a6] at a4
                  exact absurd a4 (fun z => z.elim e1 e2)
                · exact ⟨p, i, a1, a2, a3, a4, a5, Or.inr ⟨a6, by omega⟩⟩
      · rw [show upd (upd (A 17) (k + wN j) 1) (k + wN j + wN j) 1 k = upd (A 17) (k + wN j) 1 k from if_neg (by omega), show upd (A 17) (k + wN j) 1 k = A 17 k from if_neg (by omega)]
        exact h4
  · rw [if_neg c0]
    have d0 : ¬ dN k j = 0 := fun z => c0 ((dN_0 k hk j hj).mpr z)
    refine ⟨h1, cTF_iff h2 ⟨fun z => ⟨z.1, z.2.imp id (fun ⟨i, hi, e⟩ => ⟨i, by omega, e⟩)⟩, fun z => ⟨z.1, z.2.imp id (fun ⟨i, hi, e⟩ => ⟨i, Nat.lt_of_le_of_ne (Nat.le_of_lt_succ hi) (fun ij => d0 (by rw [← ij]; exact e)), e⟩)⟩⟩, fun c hc hc2 => cTF_iff (h3 c hc hc2) ?_, h4⟩
    · constructor
      · rintro ⟨p, i, a1, a2, a3, a4, a5, a6⟩
        exact ⟨p, i, a1, a2, a3, a4, a5, a6.imp id (fun z => ⟨z.1, by omega⟩)⟩
      · rintro ⟨p, i, a1, a2, a3, a4, a5, a6⟩
        rcases a6 with a6 | ⟨a6, a7⟩
        · exact ⟨p, i, a1, a2, a3, a4, a5, Or.inl a6⟩
        · by_cases ij : i = j
          · rw [ij, a6] at a3; exact absurd a3 d0
          · exact ⟨p, i, a1, a2, a3, a4, a5, Or.inr ⟨a6, by omega⟩⟩
theorem cjS_15 (A : Nat → Nat → Int32) (k j : Nat) : ∀ i, i ≠ 16 → i ≠ 17 → cjS A k j i = A i := by
  intro i h1 h2
  unfold cjS cjA
  split
  · split
    · rfl
    · rw [g_upn h2, g_upn h1]
  · rfl
theorem cInv_letters {A0 : Nat → Nat → Int32} (hA : ∀ c, c < 81 → A0 15 c = nI (cTn c)) {k : Nat} (hk : k < 81) : ∀ (m j : Nat) (A : Nat → Nat → Int32), j + m = 4 → (∀ i, i ≠ 16 → i ≠ 17 → A i = A0 i) → cInv (cIns A0 cov) k j A → cInv (cIns A0 cov) k 4 (cjL k m j A) ∧ (∀ i, i ≠ 16 → i ≠ 17 → cjL k m j A i = A0 i) := by
  intro m
  induction m with
  | zero =>
    intro j A hj he h
    have hj : j = 4 := by omega
    subst hj
    exact ⟨h, he⟩
  | succ m ih =>
    intro j A hj he h
    exact ih (j + 1) (cjS A k j) (by omega) (fun i h1 h2 => (cjS_15 A k j i h1 h2).trans (he i h1 h2)) (cInv_step hA hk (by omega) h)
/-- the cubes from k on are done -/
def cDone (I : Nat → Bool) (k : Nat) (A : Nat → Nat → Int32) : Prop := (∀ c, k ≤ c → c < 81 → cTF (A 16 c) (I c = true)) ∧ (∀ c, k ≤ c → c < 81 → cTF (A 17 c) (∃ p i, p < 81 ∧ i < 4 ∧ dN p i = 0 ∧ (c = p + wN i ∨ c = p + wN i + wN i) ∧ I p = true ∧ k ≤ p))
theorem cDone_all {A0 : Nat → Nat → Int32} (hA : ∀ c, c < 81 → A0 15 c = nI (cTn c)) : ∀ (k : Nat) (A : Nat → Nat → Int32), k ≤ 81 → (∀ i, i ≠ 16 → i ≠ 17 → A i = A0 i) → cDone (cIns A0 cov) k A → cDone (cIns A0 cov) 0 (cjC cov k A) ∧ (∀ i, i ≠ 16 → i ≠ 17 → cjC cov k A i = A0 i) := by
  intro k
  induction k with
  | zero => intro A _ he h; exact ⟨h, he⟩
  | succ k ih =>
    intro A hk he h
    obtain ⟨h1, h2⟩ := h
    have hk' : k < 81 := by omega
    have e16 : cjI cov A k 16 = upd (A 16) k (gB (cSin (nI k) 4 0 && decide (¬ A 15 k &&& cov = 0))) := by unfold cjI; exact g_upe
    have e17 : cjI cov A k 17 = upd (A 17) k 0 := by unfold cjI; rw [g_upn (by decide)]; exact g_upe
    have start : cInv (cIns A0 cov) k 0 (cjI cov A k) := by
      unfold cInv
      rw [e16, e17]
      refine ⟨fun c hc hc2 => ?_, ?_, fun c hc hc2 => ?_, upd_at⟩
      · rw [show upd (A 16) k _ c = A 16 c from if_neg (by omega)]
        exact h1 c hc hc2
      · rw [upd_at]
        cases hs : cSin (nI k) 4 0 with
        | false =>
          refine Or.inr ⟨rfl, fun z => ?_⟩
          rcases z.2 with z | ⟨i, hi, -⟩
          · cases z
          · omega
        | true =>
          have one := cI_one (cov := cov) hA hk' hs
          have e15 : A 15 k = A0 15 k := by rw [he 15 (by decide) (by decide)]
          by_cases c3 : A 15 k &&& cov = 0
          · rw [decide_eq_false (fun z => z c3)]
            exact Or.inr ⟨rfl, fun z => (one.mp z.1) (by rw [← e15]; exact c3)⟩
          · rw [decide_eq_true c3]
            exact Or.inl ⟨rfl, one.mpr (by rw [← e15]; exact c3), Or.inl rfl⟩
      · rw [show upd (A 17) k 0 c = A 17 c from if_neg (by omega)]
        refine cTF_iff (h2 c hc hc2) ?_
        constructor
        · rintro ⟨p, i, a1, a2, a3, a4, a5, a6⟩
          exact ⟨p, i, a1, a2, a3, a4, a5, Or.inl a6⟩
        · rintro ⟨p, i, a1, a2, a3, a4, a5, a6⟩
          rcases a6 with a6 | ⟨a6, a7⟩
          · exact ⟨p, i, a1, a2, a3, a4, a5, a6⟩
          · omega
    have he2 : ∀ i, i ≠ 16 → i ≠ 17 → cjI cov A k i = A0 i := fun i a b => by
      unfold cjI
      rw [g_upn a, g_upn b]
      exact he i a b
    obtain ⟨⟨g1, g2, g3, g4⟩, g5⟩ := cInv_letters hA hk' 4 0 (cjI cov A k) rfl he2 start
    refine ih (cjL k 4 0 (cjI cov A k)) (by omega) g5 ⟨fun c hc hc2 => ?_, fun c hc hc2 => ?_⟩
    · by_cases e : c = k
      · subst e
        refine cTF_iff g2 ⟨fun z => z.1, fun z => ⟨z, ?_⟩⟩
        cases hs : cSin (nI c) 4 0 with
        | true => exact Or.inl rfl
        | false => exact Or.inr (cF3 c hk' hs)
      · exact g1 c (by omega) hc2
    · by_cases e : c = k
      · subst e
        refine Or.inr ⟨g4, ?_⟩
        rintro ⟨p, i, a1, a2, a3, a4, a5, a6⟩
        have := wN_pos i a2
        omega
      · refine cTF_iff (g3 c (by omega) hc2) ?_
        constructor
        · rintro ⟨p, i, a1, a2, a3, a4, a5, a6⟩
          exact ⟨p, i, a1, a2, a3, a4, a5, by omega⟩
        · rintro ⟨p, i, a1, a2, a3, a4, a5, a6⟩
          exact ⟨p, i, a1, a2, a3, a4, a5, by omega⟩
theorem sFst_none {p : Nat → Bool} : ∀ {m i : Nat}, sFst p m i = none ↔ ∀ j, i ≤ j → j < i + m → p j = false
  | 0, i => ⟨fun _ j a b => by omega, fun _ => rfl⟩
  | m + 1, i => by
    unfold sFst
    by_cases c : p i = true
    · rw [if_pos c]
      exact ⟨fun z => (by cases z), fun z => by
        have := z i (by omega) (by omega)
        rw [c] at this
        cases this⟩
    · rw [if_neg c, sFst_none (m := m) (i := i + 1)]
      constructor
      · intro h j a b
        by_cases e : j = i
        · rw [e]
          cases hq : p i with
          | true => exact absurd hq c
          | false => rfl
        · exact h j (by omega) (by omega)
      · intro h j a b
        exact h j (by omega) (by omega)
/-- THE JOINED AND THE TRIED ARE THE SAME -/
theorem cjC_prime (hA : ∀ c, c < 81 → A 15 c = nI (cTn c)) : (∀ c, c < 81 → cPr (cjC cov 81 A) c = cTr A cov c) ∧ (∀ i, i ≠ 16 → i ≠ 17 → cjC cov 81 A i = A i) := by
  obtain ⟨⟨h1, h2⟩, h3⟩ := cDone_all (cov := cov) hA 81 A (by omega) (fun _ _ _ => rfl) ⟨fun c a b => by omega, fun c a b => by omega⟩
  refine ⟨fun c hc => ?_, h3⟩
  have g1 := h1 c (by omega) hc
  have g2 := h2 c (by omega) hc
  have key : (∃ p i, p < 81 ∧ i < 4 ∧ dN p i = 0 ∧ (c = p + wN i ∨ c = p + wN i + wN i) ∧ cIns A cov p = true ∧ 0 ≤ p) ↔ ¬ sFst (cLg A cov c) 81 0 = none := by
    rw [sFst_none]
    constructor
    · rintro ⟨p, i, a1, a2, a3, a4, a5, -⟩ h
      have hw := wN_pos i a2
      obtain ⟨b1, b2⟩ := cF2 p a1 i a2 a3
      have := h p (by omega) (by omega)
      unfold cLg at this
      rw [decide_eq_true (show ¬ p = c by omega), a5, decide_eq_true] at this
      · cases this
      · rw [hA c hc, hA p a1]
        refine iB_nsub (cT_lt c hc) ?_
        rw [b2]
        refine Nat.eq_of_testBit_eq (fun r => ?_)
        rw [Nat.testBit_and, Nat.testBit_or]
        rcases a4 with rfl | rfl
        · cases (cTn (p + wN i)).testBit r <;> simp
        · cases (cTn (p + wN i + wN i)).testBit r <;> simp
    · intro h
      apply Classical.byContradiction
      intro h0
      refine h (fun o _ ho => ?_)
      have ho : o < 81 := by omega
      unfold cLg
      by_cases e1 : o = c
      · rw [decide_eq_false (fun z => z e1)]; rfl
      · rw [decide_eq_true e1]
        cases e2 : cIns A cov o with
        | false => rfl
        | true =>
          rw [Bool.true_and, Bool.true_and]
          refine decide_eq_false (fun z => ?_)
          rw [hA c hc, hA o ho] at z
          obtain ⟨j, hj, hd, hs⟩ := cF5 c hc o ho e1 (iB_nsub2 (cT_lt c hc) z)
          obtain ⟨f1, f2, f3⟩ := cF7 c hc j hj hd
          exact h0 ⟨_, j, f1, hj, f2, f3, cI_le hA f1 ho hs e2, Nat.zero_le _⟩
  unfold cPr cTr
  rcases g1 with ⟨e1, i1⟩ | ⟨e1, i1⟩
  · rw [e1, i1, Bool.true_and]
    rcases g2 with ⟨e2, i2⟩ | ⟨e2, i2⟩
    · rw [e2]
      have := key.mp i2
      cases hq : sFst (cLg A cov c) 81 0 with
      | none => exact absurd hq this
      | some j => rw [Option.isNone_some]; decide
    · rw [e2]
      have := (not_congr key).mp i2
      rw [Decidable.of_not_not this]
      decide
  · rw [e1]
    have : cIns A cov c = false := by
      cases hq : cIns A cov c with
      | true => exact absurd hq i1
      | false => rfl
    rw [this, Bool.false_and]
    exact decide_eq_false (fun z => z.1 rfl)
end X