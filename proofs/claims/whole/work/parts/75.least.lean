/-! THE LEAST COUNTEREXAMPLE: the reference's, and what ties both -/
def rRw (A : Nat → Nat → Int32) (F : Nat → Int32) (j : Nat) : Int32 := if j = 6 then mG A F else mP A j
def rPl (A : Nat → Nat → Int32) (F : Nat → Int32) (n j : Nat) : Int32 := rRw A F j &&& mInn A F n
def rWd (A : Nat → Nat → Int32) (F : Nat → Int32) (n j : Nat) : Bool := (decide (j < n) && decide (¬ mD A j = 0)) || (decide (j = 6) && decide (sDem (F 27) = false))
theorem mL_mem {D P : Nat → Int32} {p : Int32} : ∀ {m i : Nat}, p ∈ mL D P m i ↔ ∃ j, i ≤ j ∧ j < i + m ∧ ¬ D j = 0 ∧ p = P j
  | 0, i => ⟨fun h => (by cases h), fun ⟨j, h1, h2, _⟩ => by omega⟩
  | m + 1, i => by
    unfold mL
    by_cases c : D i = 0
    · rw [if_pos c, mL_mem (m := m) (i := i + 1)]
      constructor
      · rintro ⟨j, h1, h2, h3, h4⟩
        exact ⟨j, by omega, by omega, h3, h4⟩
      · rintro ⟨j, h1, h2, h3, h4⟩
        refine ⟨j, ?_, by omega, h3, h4⟩
        by_cases e : j = i
        · rw [e] at h3; exact absurd c h3
        · omega
    · rw [if_neg c, List.mem_cons, mL_mem (m := m) (i := i + 1)]
      constructor
      · rintro (h | ⟨j, h1, h2, h3, h4⟩)
        · exact ⟨i, by omega, by omega, c, h⟩
        · exact ⟨j, by omega, by omega, h3, h4⟩
      · rintro ⟨j, h1, h2, h3, h4⟩
        by_cases e : j = i
        · rw [e] at h4; exact Or.inl h4
        · exact Or.inr ⟨j, by omega, by omega, h3, h4⟩
theorem mDl_mem {A : Nat → Nat → Int32} {F : Nat → Int32} {n : Nat} (hn : n ≤ 6) {p : Int32} : p ∈ mDl A F n ↔ ∃ j, j < 7 ∧ rWd A F n j = true ∧ p = rRw A F j := by
  have e1 : ∀ j, j < n → (rWd A F n j = true ↔ ¬ mD A j = 0) := fun j hj => by
    unfold rWd
    rw [decide_eq_true hj, decide_eq_false (show ¬ j = 6 by omega), Bool.true_and, Bool.false_and, Bool.or_false, decide_eq_true_iff]
  have e2 : rWd A F n 6 = true ↔ sDem (F 27) = false := by
    unfold rWd
    rw [decide_eq_false (show ¬ 6 < n by omega), decide_eq_true (show (6 : Nat) = 6 from rfl), Bool.true_and, Bool.false_and, Bool.false_or, decide_eq_true_iff]
  have e3 : ∀ j, rWd A F n j = true → j < n ∨ j = 6 := fun j h => by
    unfold rWd at h
    simp only [Bool.or_eq_true, Bool.and_eq_true, decide_eq_true_iff] at h
    exact h.imp (fun z => z.1) (fun z => z.1)
  have r1 : ∀ j, j < n → rRw A F j = mP A j := fun j hj => by unfold rRw; rw [if_neg (by omega)]
  have r2 : rRw A F 6 = mG A F := if_pos rfl
  have base : p ∈ mL (mD A) (mP A) n 0 ↔ ∃ j, j < n ∧ rWd A F n j = true ∧ p = rRw A F j := by
    rw [mL_mem]
    constructor
    · rintro ⟨j, -, h2, h3, h4⟩
      exact ⟨j, by omega, (e1 j (by omega)).mpr h3, by rw [r1 j (by omega)]; exact h4⟩
    · rintro ⟨j, h1, h2, h3⟩
      exact ⟨j, Nat.zero_le _, by omega, (e1 j h1).mp h2, by rw [← r1 j h1]; exact h3⟩
  unfold mDl
  cases c : sDem (F 27) with
  | true =>
    rw [if_pos rfl, base]
    constructor
    · rintro ⟨j, h1, h2, h3⟩
      exact ⟨j, by omega, h2, h3⟩
    · rintro ⟨j, h1, h2, h3⟩
      rcases e3 j h2 with h | h
      · exact ⟨j, h, h2, h3⟩
      · rw [h, e2, c] at h2; cases h2
  | false =>
    rw [if_neg (by decide), List.mem_append, base, List.mem_singleton]
    constructor
    · rintro (⟨j, h1, h2, h3⟩ | h)
      · exact ⟨j, by omega, h2, h3⟩
      · exact ⟨6, by decide, e2.mpr c, by rw [r2]; exact h⟩
    · rintro ⟨j, h1, h2, h3⟩
      rcases e3 j h2 with h | h
      · exact Or.inl ⟨j, h, h2, h3⟩
      · rw [h, r2] at h3; exact Or.inr h3
theorem sAl_B {D P : Nat → Int32} {r : Nat} : ∀ {m i : Nat} {acc : Int32}, iB (sAl D P m i acc) r = true → iB acc r = true
  | 0, _, _, h => h
  | m + 1, i, acc, h => by
    unfold sAl at h
    have := sAl_B h
    split at this
    · rw [iB_and, Bool.and_eq_true] at this
      exact this.1
    · exact this
theorem mInn_16 {A : Nat → Nat → Int32} {F : Nat → Int32} {n r : Nat} (hr : r < 32) (h : iB (mInn A F n) r = true) : r < 16 := by
  have h2 : iB (mAl A n) r = true := by
    unfold mInn at h
    split at h
    · rw [iB_and, Bool.and_eq_true] at h; exact h.1
    · exact h
  have h3 := sAl_B h2
  have hd : ∀ r, r < 32 → iB 65535 r = true → r < 16 := by decide +kernel
  exact hd r hr h3
/-- the chosen set and what it leaves open -/
def rRl (A : Nat → Nat → Int32) (F : Nat → Int32) (n : Nat) (set S : Int32) : Prop := (∀ r, r < 32 → iB set r = true → r < 16 ∧ iB (mInn A F n) r = true) ∧ ∀ j, j < 32 → (iB S j = true ↔ (rWd A F n j = true ∧ ¬ ∃ r, r < 16 ∧ iB set r = true ∧ iB (rPl A F n j) r = true))
section X
variable {A : Nat → Nat → Int32} {F : Nat → Int32} {n : Nat} {M : Nat → Int32} {W : Int32}
theorem rRl_h1 (hn : n ≤ 6) (set S : Int32) (h : rRl A F n set S) : ((mDl A F n).all (fun p => decide (¬ p &&& set = 0))) = decide (S = 0) := by
  rw [Bool.eq_iff_iff, List.all_eq_true, decide_eq_true_iff, iB_eq0]
  constructor
  · intro ha j hj
    cases hb : iB S j with
    | false => rfl
    | true =>
      obtain ⟨hw, hno⟩ := (h.2 j hj).mp hb
      have hj7 : j < 7 := by
        unfold rWd at hw
        simp only [Bool.or_eq_true, Bool.and_eq_true, decide_eq_true_iff] at hw
        rcases hw with z | z <;> omega
      have := of_decide_eq_true (ha (rRw A F j) ((mDl_mem hn).mpr ⟨j, hj7, hw, rfl⟩))
      rw [iB_meet] at this
      obtain ⟨r, hr, b1, b2⟩ := this
      obtain ⟨c1, c2⟩ := h.1 r hr b2
      exact absurd ⟨r, c1, b2, by unfold rPl; rw [iB_and, b1, c2]; rfl⟩ hno
  · intro h0 p hp
    obtain ⟨j, hj7, hw, rfl⟩ := (mDl_mem hn).mp hp
    refine decide_eq_true ?_
    rw [iB_meet]
    have hnot : ¬ (rWd A F n j = true ∧ ¬ ∃ r, r < 16 ∧ iB set r = true ∧ iB (rPl A F n j) r = true) := fun z => by
      have := (h.2 j (by omega)).mpr z
      rw [h0 j (by omega)] at this
      cases this
    have hex : ∃ r, r < 16 ∧ iB set r = true ∧ iB (rPl A F n j) r = true := Classical.byContradiction (fun z => hnot ⟨hw, z⟩)
    obtain ⟨r, hr, b1, b2⟩ := hex
    unfold rPl at b2
    rw [iB_and, Bool.and_eq_true] at b2
    exact ⟨r, by omega, b2.1, b1⟩
theorem rRl_h2 (hq : spQ (rPl A F n) (rWd A F n) M W) (set S : Int32) (r : Nat) (hr : r < 16) (h : rRl A F n set S) (hi : iB (mInn A F n) r = true) : rRl A F n (set ||| ((1 : Int32) <<< (nI r &&& 31))) (iX S (M r)) := by
  have es : ∀ r2, r2 < 32 → iB (set ||| ((1 : Int32) <<< (nI r &&& 31))) r2 = (iB set r2 || decide (r2 = r)) := fun r2 h2 => by rw [iB_or, iB_shl r (by omega) r2 h2]
  refine ⟨fun r2 h2 hb => ?_, fun j hj => ?_⟩
  · rw [es r2 h2, Bool.or_eq_true, decide_eq_true_iff] at hb
    rcases hb with hb | rfl
    · exact h.1 r2 h2 hb
    · exact ⟨hr, hi⟩
  · rw [iX_B _ _ hj, Bool.and_eq_true, h.2 j hj, hq.1 r hr j hj, Bool.not_eq_true', Bool.and_eq_false_iff]
    constructor
    · rintro ⟨⟨a1, a2⟩, a3⟩
      refine ⟨a1, ?_⟩
      rintro ⟨r2, b1, b2, b3⟩
      rw [es r2 (by omega), Bool.or_eq_true, decide_eq_true_iff] at b2
      rcases b2 with b2 | rfl
      · exact a2 ⟨r2, b1, b2, b3⟩
      · rcases a3 with a3 | a3
        · rw [a1] at a3; cases a3
        · rw [b3] at a3; cases a3
    · rintro ⟨a1, a2⟩
      refine ⟨⟨a1, fun ⟨r2, b1, b2, b3⟩ => a2 ⟨r2, b1, by rw [es r2 (by omega), b2]; rfl, b3⟩⟩, ?_⟩
      cases hb : iB (rPl A F n j) r with
      | false => exact Or.inr rfl
      | true => exact absurd ⟨r, hr, by rw [es r (by omega), decide_eq_true rfl, Bool.or_true], hb⟩ a2
theorem rRl_0 (hq : spQ (rPl A F n) (rWd A F n) M W) : rRl A F n 0 W := by
  refine ⟨fun r hr hb => (by rw [iB_0] at hb; cases hb), fun j hj => ?_⟩
  rw [hq.2 j hj]
  constructor
  · intro h
    exact ⟨h, fun ⟨r, _, b, _⟩ => by rw [iB_0] at b; cases b⟩
  · intro h; exact h.1
theorem r_hin (hq : spQ (rPl A F n) (rWd A F n) M W) : ∀ r, r < 16 → ¬ iB (mInn A F n) r = true → ∀ S, iX S (M r) = S := by
  intro r hr hb S
  refine iB_ext (fun j hj => ?_)
  have : iB (mInn A F n) r = false := by
    cases h : iB (mInn A F n) r with
    | true => exact absurd h hb
    | false => rfl
  rw [iX_B _ _ hj, hq.1 r hr j hj]
  unfold rPl
  rw [iB_and, this, Bool.and_false, Bool.and_false]
  simp
theorem rWd_7 {j : Nat} (hn : n ≤ 6) (h : rWd A F n j = true) : j < 7 := by
  unfold rWd at h
  simp only [Bool.or_eq_true, Bool.and_eq_true, decide_eq_true_iff] at h
  rcases h with z | z <;> omega
theorem r_W (hn : n ≤ 6) (hq : spQ (rPl A F n) (rWd A F n) M W) : ∃ w, w < 128 ∧ W = nI w := by
  have e : W = nI 127 &&& W := by
    refine iB_ext (fun j hj => ?_)
    rw [iB_and, iB_nI _ hj]
    by_cases c : j < 7
    · have hd : ∀ j, j < 7 → Nat.testBit 127 j = true := by decide +kernel
      rw [hd j c, Bool.true_and]
    · rw [hq.2 j hj]
      cases h : rWd A F n j with
      | true => exact absurd (rWd_7 hn h) c
      | false => rw [Bool.and_false]
  rw [nI_and] at e
  exact ⟨_, Nat.lt_of_le_of_lt Nat.and_le_left (by decide), e⟩
/-- there is a counterexample, and a small one, just where all demands can be met -/
theorem r_few (hn : n ≤ 6) (hq : spQ (rPl A F n) (rWd A F n) M W) (h : mFo A F n = false) : fN M 16 W ≤ 7 := by
  unfold mFo at h
  refine fN_few 7 W (fun j hj h7 => ?_) (fun j hj hb => ?_)
  · rw [hq.2 j hj]
    cases hw : rWd A F n j with
    | true => have := rWd_7 hn hw; omega
    | false => rfl
  · rw [hq.2 j hj] at hb
    have hp := (mDl_mem hn).mpr ⟨j, rWd_7 hn hb, hb, rfl⟩
    rw [List.any_eq_false] at h
    have h2 := h _ hp
    rw [decide_eq_true_iff, iB_meet] at h2
    obtain ⟨r, hr, b1, b2⟩ := h2
    have h16 := mInn_16 hr b2
    refine ⟨r, h16, ?_⟩
    rw [hq.1 r h16 j hj, hb]
    unfold rPl
    rw [iB_and, b1, b2]
    rfl
theorem r_many (hn : n ≤ 6) (hq : spQ (rPl A F n) (rWd A F n) M W) (h : mFo A F n = true) : ¬ fN M 16 W < 100 := by
  intro hf
  unfold mFo at h
  rw [List.any_eq_true] at h
  obtain ⟨p, hp, h0⟩ := h
  obtain ⟨j, hj7, hw, rfl⟩ := (mDl_mem hn).mp hp
  have h0 := of_decide_eq_true h0
  obtain ⟨r, hr, hb, -⟩ := fN_meet (M := M) (j := j) (by omega) 16 W (by omega) (by rw [hq.2 j (by omega)]; exact hw) hf
  rw [hq.1 r hr j (by omega), Bool.and_eq_true] at hb
  have := hb.2
  unfold rPl at this
  rw [h0, iB_0] at this
  cases this
theorem rNth_some : ∀ (l : List Nat) (b t : Nat), b + l.length < 2 ^ 31 → t < l.length → rNth l (nI (b + t)) (nI b) = l[t]?
  | [], b, t, _, h => by cases h
  | r :: l, b, t, hb, h => by
    unfold rNth
    rw [List.length_cons] at hb h
    cases t with
    | zero => rw [Nat.add_zero, if_pos rfl]; rfl
    | succ t =>
      rw [if_neg (fun z => by
        have := (nI_eq (a := b) (b := b + (t + 1)) (by omega) (by omega)).mp z
        omega), nI_1, show b + (t + 1) = b + 1 + t by omega, rNth_some l (b + 1) t (by omega) (by omega)]
      rfl
theorem rNth_none : ∀ (l : List Nat) (b : Nat) (x : Int32), (∀ t, t < l.length → ¬ x = nI (b + t)) → rNth l x (nI b) = none
  | [], _, _, _ => rfl
  | r :: l, b, x, h => by
    unfold rNth
    rw [if_neg (fun z => h 0 (by rw [List.length_cons]; omega) z.symm), nI_1]
    exact rNth_none l (b + 1) x (fun t ht => by
      rw [show b + 1 + t = b + (t + 1) by omega]
      exact h (t + 1) (by rw [List.length_cons]; omega))
end X
section Y
variable {nw nx : Nat} {LO : Nat → Int64} {DO : Nat → UInt64} {d n : Nat} {A : Nat → Nat → Int32} {F : Nat → Int32} {M : Nat → Int32} {W : Int32}
theorem s_least (h : mOk A n) (hF : F 22 = nI n) (hg : gOk F) (hq : spQ (rPl A F n) (rWd A F n) M W) (hf : mFo A F n = false) : ∃ f g, (∀ t r, (pkL M 16 W)[t]? = some r → g t = nI r) ∧ (pkL M 16 W).length = fN M 16 W ∧ gm_Sp gm_MT (d + 9) 8068 [.ref 24] (gw A F nw nx LO DO) (.inl (some (.int (nI (fN M 16 W))))) (gw (va_up (va_up A 36 f) 35 g) (va_up F 26 (nI (mDl A F n).length)) nw nx LO DO) 0 0 := by
  have h7 := r_few h.1 hq hf
  have hlen := mDl_len (A := A) (F := F) h.1
  obtain ⟨f, c1, c2⟩ := s_counter (nw := nw) (nx := nx) (LO := LO) (DO := DO) (d := d + 4) h hF hg
  have hpk := gch_pk (r_hin hq) 16 (fN M 16 W) W (by omega) (by omega) rfl
  have hch := fun (k : Nat) (c : Nat → Int32) (hk : k ≤ 7) => s_choose (A := va_up A 36 f) (F := va_up F 26 (nI (mDl A F n).length)) (nw := nw) (nx := nx) (LO := LO) (DO := DO) (d := d + (7 - k)) (inn := mInn A F n) (M := M) (Rl := rRl A F n) (dl := mDl A F n) (rRl_h1 h.1) (rRl_h2 hq) hlen c1 g_upe k 16 0 c 0 W (by omega) (by omega) (rRl_0 hq)
  have loop : ∀ (m k : Nat) (c : Nat → Int32), k + m = fN M 16 W → ∃ g, (∀ t r, (pkL M 16 W)[t]? = some r → g t = nI r) ∧ ∀ (G : pG) (X : pX), gm_cl gm_mX7_least gm_tyf none (gm_Sp gm_MT (d + 8)) G X → X (.inl (some (.int (nI (fN M 16 W))))) (gw (va_up (va_up A 36 f) 35 g) (va_up F 26 (nI (mDl A F n).length)) nw nx LO DO) 0 0 → G 7 [some (.ref 24), some (.int (mInn A F n)), some (.int (nI k))] [] (gw (va_up (va_up A 36 f) 35 c) (va_up F 26 (nI (mDl A F n).length)) nw nx LO DO) 0 0 := by
    intro m
    induction m with
    | zero =>
      intro k c hk
      have hk : k = fN M 16 W := by omega
      obtain ⟨g, a1, a2, a3⟩ := hch k c (by omega)
      rw [Nat.zero_add, show d + (7 - k) + 1 + k = d + 8 by omega, show 16 - 16 = 0 from rfl] at a3
      rw [← hk] at hpk
      rw [hpk] at a3
      refine ⟨g, fun t r ht => ?_, fun G X hC hX => ?_⟩
      · have := a2 _ hpk t r ht
        rw [Nat.zero_add] at this
        exact this
      · rw [← hk] at hX
        refine gm_run1 hC [7] 200 7 ?_
        exact Or.inl ⟨_, _, _, _, a3, gx_t (show ¬ (1 : Int32) = 0 from by decide) hX⟩
    | succ m ih =>
      intro k c hk
      obtain ⟨g, a1, a2, a3⟩ := hch k c (by omega)
      rw [Nat.zero_add, show d + (7 - k) + 1 + k = d + 8 by omega, show 16 - 16 = 0 from rfl, gch_less (show k < fN M 16 W by omega)] at a3
      obtain ⟨g2, b1, b2⟩ := ih (k + 1) g (by omega)
      refine ⟨g2, b1, fun G X hC hX => ?_⟩
      have h9 := b2 G X hC hX
      rw [← nI_1] at h9
      refine gm_run1 hC [7] 200 7 ?_
      exact Or.inl ⟨_, _, _, _, a3, gx_f (show ¬ ¬ (0 : Int32) = 0 from fun z => z rfl) h9⟩
  obtain ⟨g, b1, b2⟩ := loop (fN M 16 W) 0 (A 35) (by omega)
  refine ⟨f, g, b1, (gch_le 16 _ W _ hpk).2, gm_mk gm_mX7_least rfl ⟨Or.inr rfl, rfl, rfl, trivial⟩ (fun G X hC hX => ?_)⟩
  have h9 := b2 G X hC hX
  refine gm_runs hC [7] 200 _ _ _ _ _ _ ?_
  exact Or.inl ⟨_, _, _, _, c2, h9⟩
end Y