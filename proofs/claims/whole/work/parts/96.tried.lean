/-! COUNTING MODELS by trying is counting by sets -/
def iSub (x y : Int32) : Bool := decide (x &&& (y ^^^ (-1)) = 0)
theorem iSub_or (x z y : Int32) : iSub (x ||| z) y = (iSub x y && iSub z y) := by
  unfold iSub
  rw [Bool.eq_iff_iff, Bool.and_eq_true, decide_eq_true_iff, decide_eq_true_iff, decide_eq_true_iff, iB_sub, iB_sub, iB_sub]
  constructor
  · intro h
    exact ⟨fun r hr hb => h r hr (by rw [iB_or, hb]; rfl), fun r hr hb => h r hr (by rw [iB_or, hb, Bool.or_true])⟩
  · rintro ⟨h1, h2⟩ r hr hb
    rw [iB_or, Bool.or_eq_true] at hb
    exact hb.elim (h1 r hr) (h2 r hr)
theorem iSub_1 {d : Nat} (hd : d < 32) (y : Int32) : iSub ((1 : Int32) <<< (nI d &&& 31)) y = iB y d := by
  unfold iSub
  rw [Bool.eq_iff_iff, decide_eq_true_iff, iB_sub]
  constructor
  · intro h
    exact h d hd (by rw [iB_shl d hd d hd]; exact decide_eq_true rfl)
  · intro h r hr hb
    rw [iB_shl d hd r hr, decide_eq_true_iff] at hb
    rw [hb]; exact h
theorem iSub_0 (y : Int32) : iSub 0 y = true := by
  unfold iSub
  rw [decide_eq_true_iff, iB_sub]
  intro r _ hb
  rw [iB_0] at hb
  cases hb
theorem sOcc_up : ∀ e, e < 3 → ∀ k, k < 16 → ∀ w, w < 256 → w < 16 ^ e → sOcc (nI (k * 16 ^ e + w)) (e + 1) 0 0 = sOcc (nI w) e 0 0 ||| ((1 : Int32) <<< (nI k &&& 31)) := by decide +kernel
/-- a sum of the same number -/
theorem lSum_const (q : Nat → Bool) (z : Int64) : ∀ (m i : Nat), lSum q (fun _ => z) m i 0 = lN (cntN q m i) * z
  | 0, i => by
    show (0 : Int64) = lN 0 * z
    rw [show lN 0 = 0 from rfl, Int64.zero_mul]
  | m + 1, i => by
    rw [lSum_s, lSum_const q z m (i + 1), show cntN q (m + 1) i = (if q i = true then 1 else 0) + cntN q m (i + 1) from rfl, ← lN_add, Int64.add_mul]
    cases q i
    · show 0 + _ = lN 0 * z + _
      rw [show lN 0 = 0 from rfl, Int64.zero_mul]
    · show z + _ = lN 1 * z + _
      rw [show lN 1 = 1 from rfl, Int64.one_mul]
theorem lPow_mul (b : Int32) : ∀ (m : Nat) (acc : Int64), lPow b m acc = acc * lPow b m 1
  | 0, acc => (Int64.mul_one acc).symm
  | m + 1, acc => by
    show lPow b m (acc * b.toInt64) = acc * lPow b m (1 * b.toInt64)
    rw [lPow_mul b m (acc * b.toInt64), lPow_mul b m (1 * b.toInt64), Int64.one_mul, Int64.mul_assoc]
theorem lPow_s (b : Int32) (m : Nat) : lPow b (m + 1) 1 = b.toInt64 * lPow b m 1 := by
  show lPow b m (1 * b.toInt64) = _
  rw [lPow_mul, Int64.one_mul]
/-- the ways to place e elements inside a set -/
def cWy (T : Int32) (e : Nat) : Int64 := lSum (fun w => iSub (sOcc (nI w) e 0 0) T) (fun _ => 1) (16 ^ e) 0 0
theorem cntN_le (q : Nat → Bool) : ∀ m i, cntN q m i ≤ m
  | 0, _ => Nat.le_refl _
  | m + 1, i => by
    unfold cntN
    have := cntN_le q m (i + 1)
    split <;> omega
theorem lSum_blocks (q : Nat → Bool) (v : Nat → Int64) (B : Nat) (g : Nat → Int64) (p : Nat → Bool) : ∀ (k i : Nat), (∀ t, t < k → lSum q v B ((i + t) * B) 0 = if p (i + t) = true then g (i + t) else 0) → lSum q v (k * B) (i * B) 0 = lSum p g k i 0
  | 0, i, _ => by rw [Nat.zero_mul]; rfl
  | k + 1, i, h => by
    have h0 := h 0 (by omega)
    rw [Nat.add_zero] at h0
    rw [Nat.succ_mul, Nat.add_comm, lSum_split, h0, lSum_s, show i * B + B = (i + 1) * B by rw [Nat.succ_mul], lSum_blocks q v B g p k (i + 1) (fun t ht => by
      have := h (t + 1) (by omega)
      rw [show i + 1 + t = i + (t + 1) by omega]
      exact this)]
theorem cWy_pow {t : Nat} (ht : t < 65536) : ∀ e, e < 4 → cWy (nI t) e = lPow (bcF (nI t)) e 1
  | 0, _ => by
    show lSum _ _ 1 0 0 = 1
    rw [lSum_s, lSum_0]
    show (if iSub 0 (nI t) = true then 1 else 0) + 0 = (1 : Int64)
    rw [iSub_0, if_pos rfl, Int64.add_zero]
  | e + 1, he => by
    have ih := cWy_pow ht e (by omega)
    have h256 : 16 ^ e ≤ 256 := Nat.le_trans (Nat.pow_le_pow_right (by decide) (show e ≤ 2 by omega)) (by decide)
    rw [lPow_s, ← ih, bc16 ht]
    have hc := cntN_le (fun i => t.testBit i) 16 0
    rw [nI_l (by omega)]
    unfold cWy
    rw [show 16 ^ (e + 1) = 16 * 16 ^ e by rw [Nat.pow_succ, Nat.mul_comm]]
    have hb := lSum_blocks (fun w => iSub (sOcc (nI w) (e + 1) 0 0) (nI t)) (fun _ => 1) (16 ^ e) (fun _ => cWy (nI t) e) (fun i => t.testBit i) 16 0 (fun k hk => by
      rw [Nat.zero_add]
      by_cases c : t.testBit k = true
      · rw [if_pos c]
        unfold cWy
        refine lSum_ext (fun w hw => ⟨?_, rfl⟩)
        rw [Nat.zero_add, sOcc_up e (by omega) k hk w (by omega) hw, iSub_or, iSub_1 (by omega), iB_nI _ (by omega), c, Bool.and_true]
      · rw [if_neg c]
        refine lSum_none (fun w hw => ?_)
        rw [sOcc_up e (by omega) k hk w (by omega) hw, iSub_or, iSub_1 (by omega), iB_nI _ (by omega)]
        cases h : t.testBit k with
        | true => exact absurd h c
        | false => rw [Bool.and_false])
    rw [Nat.zero_mul] at hb
    rw [hb, lSum_const]
    rfl
theorem sAl_snoc (D P : Nat → Int32) : ∀ (m i : Nat) (acc : Int32), sAl D P (m + 1) i acc = if D (i + m) = 0 then sAl D P m i acc &&& (P (i + m) ^^^ (-1)) else sAl D P m i acc
  | 0, i, acc => rfl
  | m + 1, i, acc => by
    show sAl D P (m + 1) (i + 1) _ = if D (i + (m + 1)) = 0 then sAl D P m (i + 1) _ &&& (P (i + (m + 1)) ^^^ (-1)) else sAl D P m (i + 1) _
    rw [sAl_snoc D P m (i + 1), show i + 1 + m = i + (m + 1) by omega]
theorem sAl_and (D P : Nat → Int32) (y : Int32) : ∀ (m i : Nat) (acc : Int32), sAl D P m i (acc &&& y) = sAl D P m i acc &&& y
  | 0, _, _ => rfl
  | m + 1, i, acc => by
    show sAl D P m (i + 1) (if D i = 0 then acc &&& y &&& (P i ^^^ (-1)) else acc &&& y) = sAl D P m (i + 1) (if D i = 0 then acc &&& (P i ^^^ (-1)) else acc) &&& y
    by_cases c : D i = 0
    · rw [if_pos c, if_pos c, i_and_rc, sAl_and D P y m (i + 1)]
    · rw [if_neg c, if_neg c, sAl_and D P y m (i + 1)]
theorem iSub_and (x y z : Int32) : iSub x (y &&& z) = (iSub x y && iSub x z) := by
  unfold iSub
  rw [Bool.eq_iff_iff, Bool.and_eq_true, decide_eq_true_iff, decide_eq_true_iff, decide_eq_true_iff, iB_sub, iB_sub, iB_sub]
  constructor
  · intro h
    exact ⟨fun r hr hb => by
      have := h r hr hb
      rw [iB_and, Bool.and_eq_true] at this
      exact this.1, fun r hr hb => by
      have := h r hr hb
      rw [iB_and, Bool.and_eq_true] at this
      exact this.2⟩
  · rintro ⟨h1, h2⟩ r hr hb
    rw [iB_and, h1 r hr hb, h2 r hr hb]; rfl
theorem iSub_not (x p : Int32) : iSub x (p ^^^ (-1)) = decide (p &&& x = 0) := by
  unfold iSub
  refine decide_eq_decide.mpr ?_
  rw [show x &&& ((p ^^^ (-1)) ^^^ (-1)) = p &&& x from iB_ext (fun r hr => by
    rw [iB_and, iB_and, iB_not _ hr, iB_not _ hr, Bool.not_not, Bool.and_comm])]
def tS2 (D P : Nat → Int32) (n e : Nat) (T : Int32) : Int64 := lSum (fun w => iSub (sOcc (nI w) e 0 0) T && sEv (sHo D P (sOcc (nI w) e 0 0)) n 0) (fun _ => 1) (16 ^ e) 0 0
theorem tS2_pSm (D P : Nat → Int32) {e : Nat} (he : e < 4) : ∀ (n : Nat) (t : Nat), n ≤ 6 → t < 65536 → tS2 D P n e (nI t) = pSm D P n e (sAl D P n 0 (nI t))
  | 0, t, _, ht => by
    have e1 : tS2 D P 0 e (nI t) = cWy (nI t) e := by
      unfold tS2 cWy
      refine lSum_ext (fun w _ => ⟨?_, rfl⟩)
      show (_ && true) = _
      rw [Bool.and_true]
    rw [e1, cWy_pow ht e he]
    unfold pSm
    show _ = lSum _ _ 1 0 0
    rw [lSum_s, lSum_0, if_pos (show cmQ D 0 0 = true from rfl), Int64.add_zero, cmV_sgn]
    show lPow (bcF (nI t)) e 1 = sgn (pa 0) (lPow (bcF (nI t &&& ((0 : Int32) ^^^ (-1)))) e 1)
    rw [show nI t &&& ((0 : Int32) ^^^ (-1)) = nI t from iB_ext (fun r hr => by rw [iB_and, iB_not _ hr, iB_0]; simp), show pa 0 = true from by decide +kernel]
    rfl
  | n + 1, t, hn, ht => by
    have ex : nI t &&& (P n ^^^ (-1)) = nI (t &&& (P n ^^^ (-1)).toBitVec.toNat) := nI_and t _
    have ht2 : t &&& (P n ^^^ (-1)).toBitVec.toNat < 65536 := Nat.lt_of_le_of_lt Nat.and_le_left ht
    have ih1 := tS2_pSm D P he n t (by omega) ht
    have ih2 := tS2_pSm D P he n _ (by omega) ht2
    rw [← ex, sAl_and] at ih2
    rw [sAl_snoc, Nat.zero_add, pSm_snoc D P (by omega)]
    by_cases c : D n = 0
    · rw [if_pos c, if_pos c, ← ih2]
      unfold tS2
      refine lSum_ext (fun w _ => ⟨?_, rfl⟩)
      rw [Nat.zero_add, sEv_snoc, Nat.zero_add, iSub_and, iSub_not]
      unfold sHo
      rw [decide_eq_false (show ¬ ¬ D n = 0 from fun z => z c)]
      generalize sOcc (nI w) e 0 0 = x
      generalize iSub x (nI t) = a
      generalize sEv _ n 0 = b
      by_cases c2 : P n &&& x = 0
      · rw [decide_eq_true c2, decide_eq_false (fun z => z c2)]
        cases a <;> cases b <;> rfl
      · rw [decide_eq_false c2, decide_eq_true c2]
        cases a <;> cases b <;> rfl
    · rw [if_neg c, if_neg c, ← ih1, ← ih2]
      unfold tS2
      refine lSum_diff (fun w _ => ?_)
      rw [Nat.zero_add, sEv_snoc, Nat.zero_add, iSub_and, iSub_not]
      have hh : sHo D P (sOcc (nI w) e 0 0) n = decide (¬ P n &&& sOcc (nI w) e 0 0 = 0) := by
        unfold sHo
        rw [decide_eq_true c]
        cases decide (¬ P n &&& sOcc (nI w) e 0 0 = 0) <;> rfl
      rw [hh]
      generalize sOcc (nI w) e 0 0 = x
      generalize iSub x (nI t) = a
      generalize sEv _ n 0 = b
      by_cases c2 : P n &&& x = 0
      · rw [decide_eq_true c2, decide_eq_false (fun z => z c2)]
        cases a <;> cases b <;> decide
      · rw [decide_eq_false c2, decide_eq_true c2]
        cases a <;> cases b <;> decide
theorem sOcc_16 : ∀ e, e < 4 → ∀ w, w < 16 ^ e → iSub (sOcc (nI w) e 0 0) (nI 65535) = true
  | 0, _, w, _ => iSub_0 _
  | e + 1, he, w, hw => by
    have h256 : 16 ^ e ≤ 256 := Nat.le_trans (Nat.pow_le_pow_right (by decide) (show e ≤ 2 by omega)) (by decide)
    have hpos : 0 < 16 ^ e := Nat.pow_pos (by decide)
    have hk : w / 16 ^ e < 16 := by
      refine (Nat.div_lt_iff_lt_mul hpos).mpr ?_
      rw [Nat.pow_succ, Nat.mul_comm] at hw
      exact hw
    have hr : w % 16 ^ e < 16 ^ e := Nat.mod_lt _ hpos
    have ew : w = w / 16 ^ e * 16 ^ e + w % 16 ^ e := by
      rw [Nat.mul_comm]; exact (Nat.div_add_mod w (16 ^ e)).symm
    have hd : ∀ k, k < 16 → iB (nI 65535) k = true := by decide +kernel
    rw [ew, sOcc_up e (by omega) _ hk _ (by omega) hr, iSub_or, sOcc_16 e (by omega) _ hr, iSub_1 (by omega), hd _ hk]
    rfl
/-- BY TRYING and BY SETS: the same -/
theorem tried_sets (D P : Nat → Int32) {n e : Nat} (hn : n ≤ 6) (he : e < 4) : lSum (cbQ D P n e) (fun _ => 1) (16 ^ e) 0 0 = pSm D P n e (sAl D P n 0 65535) := by
  have h := tS2_pSm D P he n 65535 hn (by decide)
  rw [show nI 65535 = 65535 from rfl] at h
  rw [← h]
  unfold tS2
  refine lSum_ext (fun w hw => ⟨?_, rfl⟩)
  rw [Nat.zero_add]
  unfold cbQ
  have := sOcc_16 e he w hw
  rw [show nI 65535 = 65535 from rfl] at this
  rw [this, Bool.true_and]