/-! COUNTING MODELS: both ways count the same -/
theorem lSum_0 (q : Nat → Bool) (v : Nat → Int64) (i : Nat) (acc : Int64) : lSum q v 0 i acc = acc := rfl
theorem lSum_acc (q : Nat → Bool) (v : Nat → Int64) : ∀ (m i : Nat) (acc : Int64), lSum q v m i acc = acc + lSum q v m i 0
  | 0, i, acc => (Int64.add_zero acc).symm
  | m + 1, i, acc => by
    unfold lSum
    rw [lSum_acc q v m (i + 1) (if q i = true then acc + v i else acc), lSum_acc q v m (i + 1) (if q i = true then 0 + v i else 0)]
    by_cases c : q i = true
    · rw [if_pos c, if_pos c, Int64.zero_add, Int64.add_assoc]
    · rw [if_neg c, if_neg c, Int64.zero_add]
theorem lSum_s (q : Nat → Bool) (v : Nat → Int64) (m i : Nat) : lSum q v (m + 1) i 0 = (if q i = true then v i else 0) + lSum q v m (i + 1) 0 := by
  conv => lhs; unfold lSum
  rw [lSum_acc]
  by_cases c : q i = true
  · rw [if_pos c, if_pos c, Int64.zero_add]
  · rw [if_neg c, if_neg c]
theorem lSum_split (q : Nat → Bool) (v : Nat → Int64) : ∀ (a b i : Nat), lSum q v (a + b) i 0 = lSum q v a i 0 + lSum q v b (i + a) 0
  | 0, b, i => by rw [Nat.zero_add, Nat.add_zero, lSum_0, Int64.zero_add]
  | a + 1, b, i => by
    rw [show a + 1 + b = (a + b) + 1 by omega, lSum_s, lSum_s, lSum_split q v a b (i + 1), show i + 1 + a = i + (a + 1) by omega, Int64.add_assoc]
theorem lSum_ext {q q' : Nat → Bool} {v v' : Nat → Int64} : ∀ {m i j : Nat}, (∀ t, t < m → q (i + t) = q' (j + t) ∧ v (i + t) = v' (j + t)) → lSum q v m i 0 = lSum q' v' m j 0
  | 0, _, _, _ => rfl
  | m + 1, i, j, h => by
    have h0 := h 0 (by omega)
    rw [Nat.add_zero, Nat.add_zero] at h0
    rw [lSum_s, lSum_s, h0.1, h0.2, lSum_ext (m := m) (i := i + 1) (j := j + 1) (fun t ht => by
      have := h (t + 1) (by omega)
      rw [show i + 1 + t = i + (t + 1) by omega, show j + 1 + t = j + (t + 1) by omega]
      exact this)]
theorem lSum_neg (q : Nat → Bool) (v : Nat → Int64) : ∀ (m i : Nat), lSum q (fun t => - v t) m i 0 = - lSum q v m i 0
  | 0, i => by rw [lSum_0, lSum_0]; decide
  | m + 1, i => by
    rw [lSum_s, lSum_s, lSum_neg q v m (i + 1)]
    by_cases c : q i = true
    · rw [if_pos c, if_pos c, Int64.neg_add, Int64.sub_eq_add_neg]
    · rw [if_neg c, if_neg c, Int64.zero_add, Int64.zero_add]
theorem lSum_none {q : Nat → Bool} {v : Nat → Int64} : ∀ {m i : Nat}, (∀ t, t < m → q (i + t) = false) → lSum q v m i 0 = 0
  | 0, _, _ => rfl
  | m + 1, i, h => by
    have h0 := h 0 (by omega)
    rw [Nat.add_zero] at h0
    rw [lSum_s, h0, if_neg (by decide), Int64.zero_add]
    exact lSum_none (fun t ht => by
      have := h (t + 1) (by omega)
      rw [show i + 1 + t = i + (t + 1) by omega]
      exact this)
theorem lSum_diff {q q1 q2 : Nat → Bool} {v : Nat → Int64} : ∀ {m i : Nat}, (∀ t, t < m → q (i + t) = (q1 (i + t) && !(q2 (i + t))) ∧ (q2 (i + t) = true → q1 (i + t) = true)) → lSum q v m i 0 = lSum q1 v m i 0 + - lSum q2 v m i 0
  | 0, i, _ => by rw [lSum_0, lSum_0, lSum_0]; rfl
  | m + 1, i, h => by
    have h0 := h 0 (by omega)
    rw [Nat.add_zero] at h0
    have ih := lSum_diff (q := q) (q1 := q1) (q2 := q2) (v := v) (m := m) (i := i + 1) (fun t ht => by
      have := h (t + 1) (by omega)
      rw [show i + 1 + t = i + (t + 1) by omega]
      exact this)
    rw [lSum_s, lSum_s, lSum_s, ih, h0.1, Int64.neg_add, Int64.sub_eq_add_neg]
    cases c1 : q1 i with
    | false =>
      cases c2 : q2 i with
      | false =>
        show 0 + _ = (0 + _) + (-(0 : Int64) + _)
        rw [Int64.zero_add, Int64.zero_add, show -(0 : Int64) = 0 from rfl, Int64.zero_add]
      | true => exact absurd (h0.2 c2) (by rw [c1]; decide)
    | true =>
      cases c2 : q2 i with
      | false =>
        show v i + _ = (v i + _) + (-(0 : Int64) + _)
        rw [show -(0 : Int64) = 0 from rfl, Int64.zero_add, Int64.add_assoc]
      | true =>
        show 0 + _ = (v i + _) + (- v i + _)
        generalize lSum q1 v m (i + 1) 0 = a
        generalize - lSum q2 v m (i + 1) 0 = b
        rw [Int64.zero_add, Int64.add_comm (v i) a, Int64.add_assoc a, ← Int64.add_assoc (v i), Int64.add_right_neg, Int64.zero_add]
/-- parity and bits of numbers of sets -/
def pa (s : Nat) : Bool := decide (bcF (nI s) - bcF (nI s) / 2 * 2 = 0)
theorem pa_up : ∀ c, c < 6 → ∀ s, s < 64 → s < 2 ^ c → pa (2 ^ c + s) = !(pa s) := by decide +kernel
theorem sb_lo : ∀ c, c < 6 → ∀ s, s < 64 → s < 2 ^ c → sIn (nI c) (nI s) = false := by decide +kernel
theorem sb_hi : ∀ c, c < 6 → ∀ s, s < 64 → s < 2 ^ c → sIn (nI c) (nI (2 ^ c + s)) = true := by decide +kernel
theorem sb_eq : ∀ c, c < 6 → ∀ s, s < 64 → s < 2 ^ c → ∀ i, i < c → sIn (nI i) (nI (2 ^ c + s)) = sIn (nI i) (nI s) := by decide +kernel
def sgn (b : Bool) (z : Int64) : Int64 := if b = true then z else - z
theorem sgn_not (b : Bool) (z : Int64) : sgn (!b) z = - sgn b z := by
  cases b
  · show z = - - z
    rw [Int64.neg_neg]
  · rfl
theorem wV_sgn (l : List Int32) (x : Int32) (e s : Nat) : wV l x e s = sgn (pa s) (lPow (bcF (wL l 0 (nI s) x)) e 1) := by
  unfold wV sgn pa
  by_cases c : bcF (nI s) - bcF (nI s) / 2 * 2 = 0
  · rw [if_pos c, decide_eq_true c, if_pos rfl]
  · rw [if_neg c, decide_eq_false c, if_neg (by decide)]
theorem cmV_sgn (P : Nat → Int32) (n e : Nat) (x : Int32) (s : Nat) : cmV P n e x s = sgn (pa s) (lPow (bcF (x &&& (sUn P (nI s) n 0 0 ^^^ (-1)))) e 1) := by
  unfold cmV sgn pa
  by_cases c : bcF (nI s) - bcF (nI s) / 2 * 2 = 0
  · rw [if_pos c, decide_eq_true c, if_pos rfl]
  · rw [if_neg c, decide_eq_false c, if_neg (by decide)]
theorem wL_app (s : Int32) : ∀ (l : List Int32) (p : Int32) (i : Nat) (acc : Int32), wL (l ++ [p]) i s acc = if sIn (nI (i + l.length)) s = true then wL l i s acc &&& (p ^^^ (-1)) else wL l i s acc
  | [], p, i, acc => rfl
  | q :: l, p, i, acc => by
    show wL (l ++ [p]) (i + 1) s _ = if sIn (nI (i + (l.length + 1))) s = true then wL l (i + 1) s _ &&& (p ^^^ (-1)) else wL l (i + 1) s _
    rw [wL_app s l p (i + 1), show i + 1 + l.length = i + (l.length + 1) by omega]
theorem i_and_rc (a b c : Int32) : a &&& b &&& c = a &&& c &&& b := by rw [Int32.and_assoc, Int32.and_comm b c, ← Int32.and_assoc]
theorem wL_and (s y : Int32) : ∀ (l : List Int32) (i : Nat) (acc : Int32), wL l i s (acc &&& y) = wL l i s acc &&& y
  | [], _, _ => rfl
  | p :: l, i, acc => by
    show wL l (i + 1) s (if sIn (nI i) s = true then acc &&& y &&& (p ^^^ (-1)) else acc &&& y) = wL l (i + 1) s (if sIn (nI i) s = true then acc &&& (p ^^^ (-1)) else acc) &&& y
    by_cases c : sIn (nI i) s = true
    · rw [if_pos c, if_pos c, i_and_rc, wL_and s y l (i + 1)]
    · rw [if_neg c, if_neg c, wL_and s y l (i + 1)]
theorem wL_ext {s s' : Int32} : ∀ {l : List Int32} {i : Nat} {acc : Int32}, (∀ t, t < i + l.length → sIn (nI t) s = sIn (nI t) s') → wL l i s acc = wL l i s' acc
  | [], _, _, _ => rfl
  | p :: l, i, acc, h => by
    show wL l (i + 1) s (if sIn (nI i) s = true then acc &&& (p ^^^ (-1)) else acc) = wL l (i + 1) s' (if sIn (nI i) s' = true then acc &&& (p ^^^ (-1)) else acc)
    rw [h i (by rw [List.length_cons]; omega), wL_ext (l := l) (i := i + 1) (fun t ht => h t (by rw [List.length_cons]; omega))]
/-- the reference's sum -/
def rS (l : List Int32) (x : Int32) (e : Nat) : Int64 := lSum (fun _ => true) (wV l x e) (2 ^ l.length) 0 0
theorem rS_snoc {l : List Int32} (hl : l.length < 6) (p x : Int32) (e : Nat) : rS (l ++ [p]) x e = rS l x e + - rS l (x &&& (p ^^^ (-1))) e := by
  have h64 : 2 ^ l.length ≤ 64 := Nat.le_trans (Nat.pow_le_pow_right (by decide) (show l.length ≤ 6 by omega)) (by decide)
  unfold rS
  rw [List.length_append, List.length_singleton, Nat.pow_succ, Nat.mul_two, lSum_split, Nat.zero_add]
  congr 1
  · refine lSum_ext (fun t ht => ⟨rfl, ?_⟩)
    rw [Nat.zero_add, wV_sgn, wV_sgn, wL_app, Nat.zero_add, sb_lo l.length hl t (by omega) ht, if_neg (by decide)]
  · rw [← lSum_neg]
    refine lSum_ext (fun t ht => ⟨rfl, ?_⟩)
    rw [Nat.zero_add, wV_sgn, wV_sgn, wL_app, Nat.zero_add, sb_hi l.length hl t (by omega) ht, if_pos rfl, pa_up l.length hl t (by omega) ht, sgn_not, wL_and, wL_ext (s := nI (2 ^ l.length + t)) (s' := nI t) (fun i hi => sb_eq l.length hl t (by omega) ht i (by omega))]
theorem sEv_snoc (p : Nat → Bool) : ∀ (m i : Nat), sEv p (m + 1) i = (sEv p m i && p (i + m))
  | 0, i => by
    show (if p i = true then true else false) = (true && p (i + 0))
    cases p i <;> rfl
  | m + 1, i => by
    show (if p i = true then sEv p (m + 1) (i + 1) else false) = ((if p i = true then sEv p m (i + 1) else false) && p (i + (m + 1)))
    rw [sEv_snoc p m (i + 1), show i + 1 + m = i + (m + 1) by omega]
    cases p i
    · rfl
    · rfl
theorem sEv_ext {p q : Nat → Bool} : ∀ {m i : Nat}, (∀ t, t < i + m → p t = q t) → sEv p m i = sEv q m i
  | 0, _, _ => rfl
  | m + 1, i, h => by
    show (if p i = true then sEv p m (i + 1) else false) = (if q i = true then sEv q m (i + 1) else false)
    rw [h i (by omega), sEv_ext (m := m) (i := i + 1) (fun t ht => h t (by omega))]
theorem sUn_snoc (P : Nat → Int32) (s : Int32) : ∀ (m i : Nat) (acc : Int32), sUn P s (m + 1) i acc = if sIn (nI (i + m)) s = true then sUn P s m i acc ||| P (i + m) else sUn P s m i acc
  | 0, i, acc => rfl
  | m + 1, i, acc => by
    show sUn P s (m + 1) (i + 1) _ = if sIn (nI (i + (m + 1))) s = true then sUn P s m (i + 1) _ ||| P (i + (m + 1)) else sUn P s m (i + 1) _
    rw [sUn_snoc P s m (i + 1), show i + 1 + m = i + (m + 1) by omega]
theorem sUn_ext {P : Nat → Int32} {s s' : Int32} : ∀ {m i : Nat} {acc : Int32}, (∀ t, t < i + m → sIn (nI t) s = sIn (nI t) s') → sUn P s m i acc = sUn P s' m i acc
  | 0, _, _, _ => rfl
  | m + 1, i, acc, h => by
    show sUn P s m (i + 1) (if sIn (nI i) s = true then acc ||| P i else acc) = sUn P s' m (i + 1) (if sIn (nI i) s' = true then acc ||| P i else acc)
    rw [h i (by omega), sUn_ext (m := m) (i := i + 1) (fun t ht => h t (by omega))]
theorem mL_snoc (D P : Nat → Int32) : ∀ (m i : Nat), mL D P (m + 1) i = mL D P m i ++ (if D (i + m) = 0 then [] else [P (i + m)])
  | 0, i => by
    show (if D i = 0 then [] else P i :: []) = [] ++ (if D (i + 0) = 0 then [] else [P (i + 0)])
    rw [List.nil_append, Nat.add_zero]
  | m + 1, i => by
    show (if D i = 0 then mL D P (m + 1) (i + 1) else P i :: mL D P (m + 1) (i + 1)) = (if D i = 0 then mL D P m (i + 1) else P i :: mL D P m (i + 1)) ++ _
    rw [mL_snoc D P m (i + 1), show i + 1 + m = i + (m + 1) by omega]
    by_cases c : D i = 0
    · rw [if_pos c, if_pos c]
    · rw [if_neg c, if_neg c]; rfl
/-- the prover's sum -/
def pSm (D P : Nat → Int32) (n e : Nat) (x : Int32) : Int64 := lSum (cmQ D n) (cmV P n e x) (2 ^ n) 0 0
theorem i_or_not (x u p : Int32) : x &&& ((u ||| p) ^^^ (-1)) = (x &&& (p ^^^ (-1))) &&& (u ^^^ (-1)) := by
  refine iB_ext (fun r hr => ?_)
  rw [iB_and, iB_and, iB_and, iB_not _ hr, iB_not _ hr, iB_not _ hr, iB_or]
  cases iB x r <;> cases iB u r <;> cases iB p r <;> rfl
theorem pSm_snoc (D P : Nat → Int32) {n : Nat} (hn : n < 6) (e : Nat) (x : Int32) : pSm D P (n + 1) e x = if D n = 0 then pSm D P n e x else pSm D P n e x + - pSm D P n e (x &&& (P n ^^^ (-1))) := by
  have h64 : 2 ^ n ≤ 64 := Nat.le_trans (Nat.pow_le_pow_right (by decide) (show n ≤ 6 by omega)) (by decide)
  have lo : lSum (cmQ D (n + 1)) (cmV P (n + 1) e x) (2 ^ n) 0 0 = pSm D P n e x := by
    unfold pSm
    refine lSum_ext (fun t ht => ⟨?_, ?_⟩)
    · rw [Nat.zero_add]
      unfold cmQ
      rw [sEv_snoc, Nat.zero_add, sb_lo n hn t (by omega) ht]
      show (_ && (true || _)) = _
      rw [Bool.true_or, Bool.and_true]
    · rw [Nat.zero_add, cmV_sgn, cmV_sgn, sUn_snoc, Nat.zero_add, sb_lo n hn t (by omega) ht, if_neg (by decide)]
  have hq : ∀ t, t < 2 ^ n → cmQ D (n + 1) (2 ^ n + t) = (cmQ D n t && decide (¬ D n = 0)) := fun t ht => by
    unfold cmQ
    rw [sEv_snoc, Nat.zero_add, sb_hi n hn t (by omega) ht]
    congr 1
    refine sEv_ext (fun i hi => ?_)
    rw [sb_eq n hn t (by omega) ht i (by omega)]
  conv => lhs; unfold pSm
  rw [Nat.pow_succ, Nat.mul_two, lSum_split, lo, Nat.zero_add]
  by_cases c : D n = 0
  · rw [if_pos c, lSum_none (fun t ht => by rw [hq t ht, decide_eq_false (fun z => z c), Bool.and_false]), Int64.add_zero]
  · rw [if_neg c]
    congr 1
    unfold pSm
    rw [← lSum_neg]
    refine lSum_ext (fun t ht => ⟨by rw [hq t ht, decide_eq_true c, Bool.and_true, Nat.zero_add], ?_⟩)
    rw [Nat.zero_add, cmV_sgn, cmV_sgn, sUn_snoc, Nat.zero_add, sb_hi n hn t (by omega) ht, if_pos rfl, pa_up n hn t (by omega) ht, sgn_not, i_or_not, sUn_ext (s := nI (2 ^ n + t)) (s' := nI t) (fun i hi => sb_eq n hn t (by omega) ht i (by omega))]
/-- BY SETS: both the same -/
theorem pSm_rS (D P : Nat → Int32) (e : Nat) : ∀ (n : Nat) (x : Int32), n ≤ 6 → pSm D P n e x = rS (mL D P n 0) x e
  | 0, x, _ => by
    unfold pSm rS
    show lSum _ _ 1 0 0 = lSum _ _ 1 0 0
    refine lSum_ext (fun t ht => ⟨rfl, ?_⟩)
    rw [cmV_sgn, wV_sgn]
    show sgn _ (lPow (bcF (x &&& ((0 : Int32) ^^^ (-1)))) e 1) = sgn _ (lPow (bcF x) e 1)
    rw [show x &&& ((0 : Int32) ^^^ (-1)) = x from iB_ext (fun r hr => by rw [iB_and, iB_not _ hr, iB_0]; simp)]
  | n + 1, x, h => by
    have hl := mL_len D P n 0
    rw [pSm_snoc D P (by omega), mL_snoc, Nat.zero_add]
    by_cases c : D n = 0
    · rw [if_pos c, if_pos c, List.append_nil, pSm_rS D P e n x (by omega)]
    · rw [if_neg c, if_neg c, rS_snoc (by omega), pSm_rS D P e n x (by omega), pSm_rS D P e n _ (by omega)]