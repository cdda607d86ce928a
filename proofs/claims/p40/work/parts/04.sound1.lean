/-! SOUNDNESS, 1: how the abstract world lies in the heap; one instruction each -/
def gm_v (ad : Nat → Nat) : Value → Value
  | .ref a => .ref (ad a)
  | v => v
def gm_e (cy : Nat → ClassId) (ad : Nat → Nat) : pE → va_E
  | .inl q => .inl (cy q.1, q.2)
  | .inr q => .inr (q.1, q.2.map (gm_v ad))
def gm_W (cy : Nat → ClassId) (ad : Nat → Nat) : Nat → pH → va_W
  | _, [] => []
  | k, e :: r => (ad k, gm_e cy ad e) :: gm_W cy ad (k + 1) r
theorem gm_nth_some {α : Type} : ∀ (l : List α) (i : Nat), gm_nth l i = l[i]?
  | [], _ => by simp [gm_nth]
  | a :: l, 0 => by simp [gm_nth]
  | a :: l, i + 1 => by simp [gm_nth, gm_nth_some l i]
theorem gm_set_eq {α : Type} : ∀ (l : List α) (i : Nat) (x : α), gm_set l i x = l.set i x
  | [], _, _ => by simp [gm_set]
  | a :: l, 0, x => by simp [gm_set]
  | a :: l, i + 1, x => by simp [gm_set, gm_set_eq l i x]
theorem gm_W_get (cy : Nat → ClassId) (ad : Nat → Nat) : ∀ (h : pH) (k i : Nat), (gm_W cy ad k h)[i]? = (h[i]?).map (fun e => (ad (k + i), gm_e cy ad e))
  | [], _, _ => by simp [gm_W]
  | e :: h, k, 0 => by simp [gm_W]
  | e :: h, k, i + 1 => by
    simp only [gm_W, List.getElem?_cons_succ]
    rw [gm_W_get cy ad h (k + 1) i, show k + 1 + i = k + (i + 1) by omega]
theorem gm_W_set (cy : Nat → ClassId) (ad : Nat → Nat) (e1 : pE) : ∀ (h : pH) (k i : Nat), gm_W cy ad k (h.set i e1) = (gm_W cy ad k h).set i (ad (k + i), gm_e cy ad e1)
  | [], _, _ => by simp [gm_W]
  | e :: h, k, 0 => by simp [gm_W]
  | e :: h, k, i + 1 => by
    simp only [gm_W, List.set_cons_succ]
    rw [gm_W_set cy ad e1 h (k + 1) i, show k + 1 + i = k + (i + 1) by omega]
theorem gm_W_app (cy : Nat → ClassId) (ad : Nat → Nat) (e1 : pE) : ∀ (h : pH) (k : Nat), gm_W cy ad k (h ++ [e1]) = gm_W cy ad k h ++ [(ad (k + h.length), gm_e cy ad e1)]
  | [], _ => by simp [gm_W]
  | e :: h, k => by
    simp only [gm_W, List.cons_append, List.length_cons]
    rw [gm_W_app cy ad e1 h (k + 1), show k + 1 + h.length = k + (h.length + 1) by omega]
theorem gm_W_len (cy : Nat → ClassId) (ad : Nat → Nat) : ∀ (h : pH) (k : Nat), (gm_W cy ad k h).length = h.length
  | [], _ => rfl
  | e :: h, k => by simp [gm_W, gm_W_len cy ad h (k + 1)]
/-- the locals -/
def gm_hL (lsA : Array Slot) (nL : Nat) (ad : Nat → Nat) (ls : pL) : Prop := lsA.size = nL ∧ ls.length = nL ∧ lv_wf lsA ∧ ∀ (i : Nat) (v : Value), ls[i]? = some (some v) → lsA[i]? = some (.val (gm_v ad v))
def gm_lv (ad : Nat → Nat) : Nat → pL → List (Nat × Value)
  | _, [] => []
  | k, none :: r => gm_lv ad (k + 1) r
  | k, some v :: r => (k, gm_v ad v) :: gm_lv ad (k + 1) r
theorem gm_lv_mem (ad : Nat → Nat) : ∀ (ls : pL) (k : Nat) (q : Nat × Value), q ∈ gm_lv ad k ls ↔ ∃ i v, ls[i]? = some (some v) ∧ q = (k + i, gm_v ad v)
  | [], k, q => by simp [gm_lv]
  | none :: ls, k, q => by
    simp only [gm_lv]
    rw [gm_lv_mem ad ls (k + 1) q]
    constructor
    · rintro ⟨i, v, h1, h2⟩
      exact ⟨i + 1, v, by simpa using h1, by rw [h2, show k + 1 + i = k + (i + 1) by omega]⟩
    · rintro ⟨i, v, h1, h2⟩
      cases i with
      | zero => simp at h1
      | succ i => exact ⟨i, v, by simpa using h1, by rw [h2, show k + 1 + i = k + (i + 1) by omega]⟩
  | some w :: ls, k, q => by
    simp only [gm_lv, List.mem_cons]
    rw [gm_lv_mem ad ls (k + 1) q]
    constructor
    · rintro (h | ⟨i, v, h1, h2⟩)
      · exact ⟨0, w, by simp, by simpa using h⟩
      · exact ⟨i + 1, v, by simpa using h1, by rw [h2, show k + 1 + i = k + (i + 1) by omega]⟩
    · rintro ⟨i, v, h1, h2⟩
      cases i with
      | zero =>
        simp at h1
        subst h1
        exact Or.inl (by simpa using h2)
      | succ i => exact Or.inr ⟨i, v, by simpa using h1, by rw [h2, show k + 1 + i = k + (i + 1) by omega]⟩
theorem gm_hL.has {lsA : Array Slot} {nL : Nat} {ad : Nat → Nat} {ls : pL} (h : gm_hL lsA nL ad ls) : lv_has lsA nL (gm_lv ad 0 ls) := by
  refine ⟨h.1, h.2.2.1, fun q hq => ?_⟩
  obtain ⟨i, v, h1, h2⟩ := (gm_lv_mem ad ls 0 q).mp hq
  rw [h2]
  simpa using h.2.2.2 i v h1
theorem gm_hL.at {lsA : Array Slot} {nL : Nat} {ad : Nat → Nat} {ls : pL} (h : gm_hL lsA nL ad ls) {i : Nat} {v : Value} (hv : gm_nth ls i = some (some v)) : lsA[i]? = some (.val (gm_v ad v)) := h.2.2.2 i v (by rw [← gm_nth_some]; exact hv)
theorem gm_v_cat (ad : Nat → Nat) (v : Value) : (gm_v ad v).category = v.category := by cases v <;> rfl
theorem gm_v_sum (ad : Nat → Nat) : ∀ st : List Value, ((st.map (gm_v ad)).map fun v => v.category).sum = gm_sum st
  | [] => rfl
  | v :: r => by
    simp only [List.map_cons, List.sum_cons, gm_v_cat, gm_v_sum ad r]
    cases v <;> simp [gm_sum, Value.category]
theorem gm_cat2_of {ls : pL} {i : Nat} {w : Value} (h : ls[i]? = some (some w)) : gm_cat2 (gm_nth ls i) = (w.category == 2) := by
  rw [gm_nth_some, h]
  cases w <;> rfl
theorem gm_if_of {b : Bool} {P : Prop} (h : gm_if b P) : b = true ∧ P := by
  cases b with
  | true => exact ⟨rfl, h⟩
  | false => exact False.elim h
theorem gm_okx_of {ty : FieldType} {v : Value} {P : Prop} (h : gm_okx ty v P) : gm_ok ty v ∧ P := by
  unfold gm_okx at h
  split at h <;> first | exact ⟨trivial, h⟩ | exact h | exact False.elim h
theorem gm_okrx_of {ty : Option FieldType} {v : Option Value} {P : Prop} (h : gm_okrx ty v P) : gm_okr ty v ∧ P := by
  unfold gm_okrx at h
  split at h
  · exact ⟨trivial, h⟩
  · exact gm_okx_of h
  · exact False.elim h
theorem gm_hL.st1 {lsA lsB : Array Slot} {nL : Nat} {ad : Nat → Nat} {ls : pL} {i : Nat} {v : Value} (h : gm_hL lsA nL ad ls) (hi : i < nL)
    (hB : lv_has lsB nL ((i, gm_v ad v) :: (gm_lv ad 0 ls).filter (fun q => !(q.1 == i) && !(q.1 + 1 == i && q.2.category == 2)))) : gm_hL lsB nL ad (gm_st1 ls i v) := by
  obtain ⟨b1, b2, b3⟩ := hB
  have hlen : (gm_st1 ls i v).length = nL := by
    cases i with
    | zero => simp [gm_st1, gm_set_eq, h.2.1]
    | succ i =>
      simp only [gm_st1, gm_set_eq]
      cases gm_cat2 (gm_nth ls i) <;> simp [h.2.1]
  refine ⟨b1, hlen, b2, fun j w hj => ?_⟩
  have rest : j ≠ i → ls[j]? = some (some w) → ¬ (j + 1 = i ∧ w.category = 2) → lsB[j]? = some (.val (gm_v ad w)) := by
    intro h1 h2 h3
    refine b3 (j, gm_v ad w) (List.mem_cons_of_mem _ (List.mem_filter.mpr ⟨(gm_lv_mem ad ls 0 _).mpr ⟨j, w, h2, by simp⟩, ?_⟩))
    simp only [Bool.and_eq_true, Bool.not_eq_true', beq_eq_false_iff_ne, ne_eq, Bool.and_eq_false_iff, gm_v_cat]
    refine ⟨h1, ?_⟩
    by_cases h4 : j + 1 = i
    · exact Or.inr fun h5 => h3 ⟨h4, h5⟩
    · exact Or.inl h4
  have hil : i < ls.length := by rw [h.2.1]; exact hi
  cases i with
  | zero =>
    simp only [gm_st1, gm_set_eq] at hj
    by_cases hj0 : j = 0
    · subst hj0
      rw [List.getElem?_set_self hil] at hj
      cases hj
      exact b3 _ List.mem_cons_self
    · rw [List.getElem?_set_ne (Ne.symm hj0)] at hj
      exact rest hj0 hj (by omega)
  | succ i =>
    simp only [gm_st1, gm_set_eq] at hj
    by_cases hj0 : j = i + 1
    · subst hj0
      rw [List.getElem?_set_self (by cases gm_cat2 (gm_nth ls i) <;> simp <;> omega)] at hj
      cases hj
      exact b3 _ List.mem_cons_self
    · rw [List.getElem?_set_ne (Ne.symm hj0)] at hj
      cases hc : gm_cat2 (gm_nth ls i) with
      | false =>
        rw [hc] at hj
        simp only [cond_false] at hj
        refine rest hj0 hj (fun hz => ?_)
        have hji : j = i := by omega
        subst hji
        rw [gm_cat2_of hj, hz.2] at hc
        simp at hc
      | true =>
        rw [hc] at hj
        simp only [cond_true] at hj
        by_cases hji : j = i
        · subst hji
          rw [List.getElem?_set_self (by omega)] at hj
          cases hj
        · rw [List.getElem?_set_ne (Ne.symm hji)] at hj
          exact rest hj0 hj (fun hz => hji (by omega))
theorem gm_hL.st2 {lsA lsB : Array Slot} {nL : Nat} {ad : Nat → Nat} {ls : pL} {i : Nat} {v : Value} (h : gm_hL lsA nL ad ls) (hi : i + 1 < nL)
    (hB : lv_has lsB nL ((i, gm_v ad v) :: (gm_lv ad 0 ls).filter (fun q => !(q.1 == i) && (!(q.1 == i + 1) && !(q.1 + 1 == i && q.2.category == 2))))) : gm_hL lsB nL ad (gm_st2 ls i v) := by
  obtain ⟨b1, b2, b3⟩ := hB
  have hlen : (gm_st2 ls i v).length = nL := by
    cases i with
    | zero => simp [gm_st2, gm_set_eq, h.2.1]
    | succ i =>
      simp only [gm_st2, gm_set_eq]
      cases gm_cat2 (gm_nth ls i) <;> simp [h.2.1]
  refine ⟨b1, hlen, b2, fun j w hj => ?_⟩
  have rest : j ≠ i → j ≠ i + 1 → ls[j]? = some (some w) → ¬ (j + 1 = i ∧ w.category = 2) → lsB[j]? = some (.val (gm_v ad w)) := by
    intro h1 h0 h2 h3
    refine b3 (j, gm_v ad w) (List.mem_cons_of_mem _ (List.mem_filter.mpr ⟨(gm_lv_mem ad ls 0 _).mpr ⟨j, w, h2, by simp⟩, ?_⟩))
    simp only [Bool.and_eq_true, Bool.not_eq_true', beq_eq_false_iff_ne, ne_eq, Bool.and_eq_false_iff, gm_v_cat]
    refine ⟨h1, h0, ?_⟩
    by_cases h4 : j + 1 = i
    · exact Or.inr fun h5 => h3 ⟨h4, h5⟩
    · exact Or.inl h4
  have hil : i + 1 < ls.length := by rw [h.2.1]; exact hi
  cases i with
  | zero =>
    simp only [gm_st2, gm_set_eq] at hj
    by_cases hj0 : j = 0
    · subst hj0
      rw [List.getElem?_set_self (by simp; omega)] at hj
      cases hj
      exact b3 _ List.mem_cons_self
    · rw [List.getElem?_set_ne (Ne.symm hj0)] at hj
      by_cases hj1 : j = 1
      · subst hj1
        rw [List.getElem?_set_self (by omega)] at hj
        cases hj
      · rw [List.getElem?_set_ne (Ne.symm hj1)] at hj
        exact rest hj0 hj1 hj (by omega)
  | succ i =>
    simp only [gm_st2, gm_set_eq] at hj
    by_cases hj0 : j = i + 1
    · subst hj0
      rw [List.getElem?_set_self (by cases gm_cat2 (gm_nth ls i) <;> simp <;> omega)] at hj
      cases hj
      exact b3 _ List.mem_cons_self
    · rw [List.getElem?_set_ne (Ne.symm hj0)] at hj
      by_cases hj2 : j = i + 2
      · subst hj2
        rw [List.getElem?_set_self (by cases gm_cat2 (gm_nth ls i) <;> simp <;> omega)] at hj
        cases hj
      rw [List.getElem?_set_ne (Ne.symm hj2)] at hj
      cases hc : gm_cat2 (gm_nth ls i) with
      | false =>
        rw [hc] at hj
        simp only [cond_false] at hj
        refine rest hj0 hj2 hj (fun hz => ?_)
        have hji : j = i := by omega
        subst hji
        rw [gm_cat2_of hj, hz.2] at hc
        simp at hc
      | true =>
        rw [hc] at hj
        simp only [cond_true] at hj
        by_cases hji : j = i
        · subst hji
          rw [List.getElem?_set_self (by omega)] at hj
          cases hj
        · rw [List.getElem?_set_ne (Ne.symm hji)] at hj
          exact rest hj0 hj2 hj (fun hz => hji (by omega))
theorem gm_lit_ofInt (k : Int) : Int32.ofInt k = gm_lit k := by
  cases k with
  | ofNat n => exact Int32.ofInt_eq_ofNat
  | negSucc n =>
    show Int32.ofInt (Int.negSucc n) = -(Int32.ofNat (n + 1))
    rw [Int.negSucc_eq, Int32.ofInt_neg]
    exact congrArg (fun z : Int32 => -z) (Int32.ofInt_eq_ofNat (n := n + 1))
/-- how the addresses that a method began with stay -/
def gm_ag (n0 : Nat) (ad0 ad : Nat → Nat) (h : pH) : Prop := n0 ≤ h.length ∧ (h.length = n0 → ad = ad0) ∧ (∀ i, i < n0 → ad i = ad0 i) ∧ ad 88888 = ad0 88888
section GM
variable {p : Program} {l : Launch} {e : Env} {R : Room} {s : State} {m : MethodId} {args : Array Value} {below : List Frame} {meth : Method} {c : Code} {Q : State → Prop} {dC : Nat → ClassId} {dI : Nat → Nat → Nat} {cy : Nat → ClassId} {A : Nat → Prop} {ad0 : Nat → Nat} {n0 nL : Nat}
/-- the predicate that the machine itself goes back along: from every heap that holds the world h the machine comes to Q -/
def gm_G (p : Program) (l : Launch) (e : Env) (R : Room) (s : State) (m : MethodId) (args : Array Value) (below : List Frame) (meth : Method) (c : Code) (Q : State → Prop) (dC : Nat → ClassId) (dI : Nat → Nat → Nat) (cy : Nat → ClassId) (A : Nat → Prop) (ad0 : Nat → Nat) (n0 nL : Nat) : pG := fun pc ls st h cl sl =>
  (cl ≤ R.cells ∧ sl ≤ R.slots) ∧ ∀ (ad : Nat → Nat) (H : Heap) (locs : List Loc) (lsA : Array Slot), gm_ag n0 ad0 ad h → va_P (dC, dI) vwCl (gm_W cy ad 0 h) H → va_D A (gm_W cy ad 0 h) → va_S A s.heap H locs → gm_hL lsA nL ad ls → W p l e R s m args below meth c H locs cl sl Q (F0 m pc lsA (st.map (gm_v ad)))
variable {pc n : Nat} {ls : pL} {st : List Value} {h : pH} {cl sl : Nat} {cc : ByteArray}
theorem gm_lift {pc2 : Nat} {ls2 : pL} {st2 : List Value} (hG : gm_G p l e R s m args below meth c Q dC dI cy A ad0 n0 nL pc2 ls2 st2 h cl sl)
    (k : ∀ (ad : Nat → Nat) (H : Heap) (locs : List Loc) (lsA : Array Slot), gm_ag n0 ad0 ad h → va_P (dC, dI) vwCl (gm_W cy ad 0 h) H → va_D A (gm_W cy ad 0 h) → va_S A s.heap H locs → gm_hL lsA nL ad ls → (∀ lsB : Array Slot, gm_hL lsB nL ad ls2 → W p l e R s m args below meth c H locs cl sl Q (F0 m pc2 lsB (st2.map (gm_v ad)))) → W p l e R s m args below meth c H locs cl sl Q (F0 m pc lsA (st.map (gm_v ad)))) : gm_G p l e R s m args below meth c Q dC dI cy A ad0 n0 nL pc ls st h cl sl :=
  ⟨hG.1, fun ad H locs lsA h1 h2 h3 h4 h5 => k ad H locs lsA h1 h2 h3 h4 h5 (fun lsB h6 => hG.2 ad H locs lsB h1 h2 h3 h4 h6)⟩
/-- an instruction that leaves locals and heap as they are -/
theorem gm_lift0 {pc2 : Nat} {st2 : List Value} (hG : gm_G p l e R s m args below meth c Q dC dI cy A ad0 n0 nL pc2 ls st2 h cl sl)
    (k : ∀ (ad : Nat → Nat) (H : Heap) (locs : List Loc) (lsA : Array Slot), gm_hL lsA nL ad ls → W p l e R s m args below meth c H locs cl sl Q (F0 m pc2 lsA (st2.map (gm_v ad))) → W p l e R s m args below meth c H locs cl sl Q (F0 m pc lsA (st.map (gm_v ad)))) : gm_G p l e R s m args below meth c Q dC dI cy A ad0 n0 nL pc ls st h cl sl :=
  gm_lift hG (fun ad H locs lsA _ _ _ _ h5 h6 => k ad H locs lsA h5 (h6 lsA h5))

theorem gm_s_iconst {k : Int} (hx : p.tables.exec = Jvm.exec) (hb : c.code = cc) (hd : decode cc pc = .ok (.iconst k, 1)) (h0 : gm_G p l e R s m args below meth c Q dC dI cy A ad0 n0 nL (pc + 1) ls (.int (gm_lit k) :: st) h cl sl) : gm_G p l e R s m args below meth c Q dC dI cy A ad0 n0 nL pc ls st h cl sl :=
  gm_lift0 h0 fun _ _ _ _ _ k => lv_iconst hx hb hd (gm_lit_ofInt _) k
theorem gm_s_bipush {k : Int} (hv : (Int8.ofInt k).toInt32 = gm_lit k) (hx : p.tables.exec = Jvm.exec) (hb : c.code = cc) (hd : decode cc pc = .ok (.bipush k, 2)) (h0 : gm_G p l e R s m args below meth c Q dC dI cy A ad0 n0 nL (pc + 2) ls (.int (gm_lit k) :: st) h cl sl) : gm_G p l e R s m args below meth c Q dC dI cy A ad0 n0 nL pc ls st h cl sl :=
  gm_lift0 h0 fun _ _ _ _ _ k => lv_bipush hx hb hd hv k
theorem gm_s_sipush {k : Int} (hv : (Int16.ofInt k).toInt32 = gm_lit k) (hx : p.tables.exec = Jvm.exec) (hb : c.code = cc) (hd : decode cc pc = .ok (.sipush k, 3)) (h0 : gm_G p l e R s m args below meth c Q dC dI cy A ad0 n0 nL (pc + 3) ls (.int (gm_lit k) :: st) h cl sl) : gm_G p l e R s m args below meth c Q dC dI cy A ad0 n0 nL pc ls st h cl sl :=
  gm_lift0 h0 fun _ _ _ _ _ k => lv_sipush hx hb hd hv k
theorem gm_s_lconst {k : Fin 2} (hx : p.tables.exec = Jvm.exec) (hb : c.code = cc) (hd : decode cc pc = .ok (.lconst k, 1)) (h0 : gm_G p l e R s m args below meth c Q dC dI cy A ad0 n0 nL (pc + 1) ls (.long (OfNat.ofNat k.val) :: st) h cl sl) : gm_G p l e R s m args below meth c Q dC dI cy A ad0 n0 nL pc ls st h cl sl :=
  gm_lift0 h0 fun _ _ _ _ _ k => lv_lconst hx hb hd rfl k
theorem gm_s_fconst0 (hx : p.tables.exec = Jvm.exec) (hb : c.code = cc) (hd : decode cc pc = .ok (.fconst 0, 1)) (h0 : gm_G p l e R s m args below meth c Q dC dI cy A ad0 n0 nL (pc + 1) ls (.float FP.fconst0 :: st) h cl sl) : gm_G p l e R s m args below meth c Q dC dI cy A ad0 n0 nL pc ls st h cl sl :=
  gm_lift0 h0 fun _ _ _ _ _ k => lv_fconst0 hx hb hd k

theorem gm_s_iload_n {k : Fin 4} (hx : p.tables.exec = Jvm.exec) (hb : c.code = cc) (hd : decode cc pc = .ok (.iload_n k, 1)) (h0 : gm_li (gm_nth ls k.val) fun x => gm_G p l e R s m args below meth c Q dC dI cy A ad0 n0 nL (pc + 1) ls (.int x :: st) h cl sl) : gm_G p l e R s m args below meth c Q dC dI cy A ad0 n0 nL pc ls st h cl sl := by
  unfold gm_li at h0
  split at h0
  · rename_i x hq
    exact gm_lift0 h0 fun _ _ _ _ hL k => lv_iload_n hx hb hd rfl (hL.at hq) k
  · exact h0.elim

theorem gm_s_lload_n {k : Fin 4} (hx : p.tables.exec = Jvm.exec) (hb : c.code = cc) (hd : decode cc pc = .ok (.lload_n k, 1)) (h0 : gm_ll (gm_nth ls k.val) fun x => gm_G p l e R s m args below meth c Q dC dI cy A ad0 n0 nL (pc + 1) ls (.long x :: st) h cl sl) : gm_G p l e R s m args below meth c Q dC dI cy A ad0 n0 nL pc ls st h cl sl := by
  unfold gm_ll at h0
  split at h0
  · rename_i x hq
    exact gm_lift0 h0 fun _ _ _ _ hL k => lv_lload_n hx hb hd rfl (hL.at hq) k
  · exact h0.elim

theorem gm_s_aload_n {k : Fin 4} (hx : p.tables.exec = Jvm.exec) (hb : c.code = cc) (hd : decode cc pc = .ok (.aload_n k, 1)) (h0 : gm_la (gm_nth ls k.val) fun x => gm_G p l e R s m args below meth c Q dC dI cy A ad0 n0 nL (pc + 1) ls (.ref x :: st) h cl sl) : gm_G p l e R s m args below meth c Q dC dI cy A ad0 n0 nL pc ls st h cl sl := by
  unfold gm_la at h0
  split at h0
  · rename_i x hq
    exact gm_lift0 h0 fun _ _ _ _ hL k => lv_aload_n hx hb hd rfl (hL.at hq) k
  · exact h0.elim

theorem gm_s_iload {k : Nat} (hx : p.tables.exec = Jvm.exec) (hb : c.code = cc) (hd : decode cc pc = .ok (.iload k, 2)) (h0 : gm_li (gm_nth ls k) fun x => gm_G p l e R s m args below meth c Q dC dI cy A ad0 n0 nL (pc + 2) ls (.int x :: st) h cl sl) : gm_G p l e R s m args below meth c Q dC dI cy A ad0 n0 nL pc ls st h cl sl := by
  unfold gm_li at h0
  split at h0
  · rename_i x hq
    exact gm_lift0 h0 fun _ _ _ _ hL k => lv_iload hx hb hd (hL.at hq) k
  · exact h0.elim

theorem gm_s_lload {k : Nat} (hx : p.tables.exec = Jvm.exec) (hb : c.code = cc) (hd : decode cc pc = .ok (.lload k, 2)) (h0 : gm_ll (gm_nth ls k) fun x => gm_G p l e R s m args below meth c Q dC dI cy A ad0 n0 nL (pc + 2) ls (.long x :: st) h cl sl) : gm_G p l e R s m args below meth c Q dC dI cy A ad0 n0 nL pc ls st h cl sl := by
  unfold gm_ll at h0
  split at h0
  · rename_i x hq
    exact gm_lift0 h0 fun _ _ _ _ hL k => lv_lload hx hb hd (hL.at hq) k
  · exact h0.elim

theorem gm_s_aload {k : Nat} (hx : p.tables.exec = Jvm.exec) (hb : c.code = cc) (hd : decode cc pc = .ok (.aload k, 2)) (h0 : gm_la (gm_nth ls k) fun x => gm_G p l e R s m args below meth c Q dC dI cy A ad0 n0 nL (pc + 2) ls (.ref x :: st) h cl sl) : gm_G p l e R s m args below meth c Q dC dI cy A ad0 n0 nL pc ls st h cl sl := by
  unfold gm_la at h0
  split at h0
  · rename_i x hq
    exact gm_lift0 h0 fun _ _ _ _ hL k => lv_aload hx hb hd (hL.at hq) k
  · exact h0.elim

theorem gm_s_fload {k : Nat} (hx : p.tables.exec = Jvm.exec) (hb : c.code = cc) (hd : decode cc pc = .ok (.fload k, 2)) (h0 : gm_lf (gm_nth ls k) fun x => gm_G p l e R s m args below meth c Q dC dI cy A ad0 n0 nL (pc + 2) ls (.float x :: st) h cl sl) : gm_G p l e R s m args below meth c Q dC dI cy A ad0 n0 nL pc ls st h cl sl := by
  unfold gm_lf at h0
  split at h0
  · rename_i x hq
    exact gm_lift0 h0 fun _ _ _ _ hL k => lv_fload hx hb hd (hL.at hq) k
  · exact h0.elim

theorem gm_s_istore_n {k : Fin 4} (hx : p.tables.exec = Jvm.exec) (hb : c.code = cc) (hd : decode cc pc = .ok (.istore_n k, 1)) (h0 : gm_i1 st fun x r => gm_if (Nat.blt k.val ls.length) (gm_G p l e R s m args below meth c Q dC dI cy A ad0 n0 nL (pc + 1) (gm_st1 ls k.val (.int x)) r h cl sl)) : gm_G p l e R s m args below meth c Q dC dI cy A ad0 n0 nL pc ls st h cl sl := by
  unfold gm_i1 at h0
  split at h0
  · obtain ⟨h1, h0⟩ := gm_if_of h0
    exact gm_lift h0 fun ad _ _ _ _ _ _ _ hL k => lv_istore_n hx hb hd rfl hL.has (by rw [← hL.2.1]; exact Nat.blt_eq.mp h1) rfl (fun lsB hB => k lsB (hL.st1 (by rw [← hL.2.1]; exact Nat.blt_eq.mp h1) hB))
  · exact h0.elim

theorem gm_s_istore {k : Nat} (hx : p.tables.exec = Jvm.exec) (hb : c.code = cc) (hd : decode cc pc = .ok (.istore k, 2)) (h0 : gm_i1 st fun x r => gm_if (Nat.blt k ls.length) (gm_G p l e R s m args below meth c Q dC dI cy A ad0 n0 nL (pc + 2) (gm_st1 ls k (.int x)) r h cl sl)) : gm_G p l e R s m args below meth c Q dC dI cy A ad0 n0 nL pc ls st h cl sl := by
  unfold gm_i1 at h0
  split at h0
  · obtain ⟨h1, h0⟩ := gm_if_of h0
    exact gm_lift h0 fun ad _ _ _ _ _ _ _ hL k => lv_istore hx hb hd hL.has (by rw [← hL.2.1]; exact Nat.blt_eq.mp h1) rfl (fun lsB hB => k lsB (hL.st1 (by rw [← hL.2.1]; exact Nat.blt_eq.mp h1) hB))
  · exact h0.elim

theorem gm_s_lstore_n {k : Fin 4} (hx : p.tables.exec = Jvm.exec) (hb : c.code = cc) (hd : decode cc pc = .ok (.lstore_n k, 1)) (h0 : gm_l1 st fun x r => gm_if (Nat.blt (k.val + 1) ls.length) (gm_G p l e R s m args below meth c Q dC dI cy A ad0 n0 nL (pc + 1) (gm_st2 ls k.val (.long x)) r h cl sl)) : gm_G p l e R s m args below meth c Q dC dI cy A ad0 n0 nL pc ls st h cl sl := by
  unfold gm_l1 at h0
  split at h0
  · obtain ⟨h1, h0⟩ := gm_if_of h0
    exact gm_lift h0 fun ad _ _ _ _ _ _ _ hL k => lv_lstore_n hx hb hd rfl hL.has (by rw [← hL.2.1]; exact Nat.blt_eq.mp h1) rfl (fun lsB hB => k lsB (hL.st2 (by rw [← hL.2.1]; exact Nat.blt_eq.mp h1) hB))
  · exact h0.elim

theorem gm_s_lstore {k : Nat} (hx : p.tables.exec = Jvm.exec) (hb : c.code = cc) (hd : decode cc pc = .ok (.lstore k, 2)) (h0 : gm_l1 st fun x r => gm_if (Nat.blt (k + 1) ls.length) (gm_G p l e R s m args below meth c Q dC dI cy A ad0 n0 nL (pc + 2) (gm_st2 ls k (.long x)) r h cl sl)) : gm_G p l e R s m args below meth c Q dC dI cy A ad0 n0 nL pc ls st h cl sl := by
  unfold gm_l1 at h0
  split at h0
  · obtain ⟨h1, h0⟩ := gm_if_of h0
    exact gm_lift h0 fun ad _ _ _ _ _ _ _ hL k => lv_lstore hx hb hd hL.has (by rw [← hL.2.1]; exact Nat.blt_eq.mp h1) rfl (fun lsB hB => k lsB (hL.st2 (by rw [← hL.2.1]; exact Nat.blt_eq.mp h1) hB))
  · exact h0.elim

theorem gm_s_astore_n {k : Fin 4} (hx : p.tables.exec = Jvm.exec) (hb : c.code = cc) (hd : decode cc pc = .ok (.astore_n k, 1)) (h0 : gm_sa st fun x r => gm_if (Nat.blt k.val ls.length) (gm_G p l e R s m args below meth c Q dC dI cy A ad0 n0 nL (pc + 1) (gm_st1 ls k.val (.ref x)) r h cl sl)) : gm_G p l e R s m args below meth c Q dC dI cy A ad0 n0 nL pc ls st h cl sl := by
  unfold gm_sa at h0
  split at h0
  · obtain ⟨h1, h0⟩ := gm_if_of h0
    exact gm_lift h0 fun ad _ _ _ _ _ _ _ hL k => lv_astore_n hx hb hd rfl hL.has (by rw [← hL.2.1]; exact Nat.blt_eq.mp h1) rfl (fun lsB hB => k lsB (hL.st1 (by rw [← hL.2.1]; exact Nat.blt_eq.mp h1) hB))
  · exact h0.elim

theorem gm_s_astore {k : Nat} (hx : p.tables.exec = Jvm.exec) (hb : c.code = cc) (hd : decode cc pc = .ok (.astore k, 2)) (h0 : gm_sa st fun x r => gm_if (Nat.blt k ls.length) (gm_G p l e R s m args below meth c Q dC dI cy A ad0 n0 nL (pc + 2) (gm_st1 ls k (.ref x)) r h cl sl)) : gm_G p l e R s m args below meth c Q dC dI cy A ad0 n0 nL pc ls st h cl sl := by
  unfold gm_sa at h0
  split at h0
  · obtain ⟨h1, h0⟩ := gm_if_of h0
    exact gm_lift h0 fun ad _ _ _ _ _ _ _ hL k => lv_astore hx hb hd hL.has (by rw [← hL.2.1]; exact Nat.blt_eq.mp h1) rfl (fun lsB hB => k lsB (hL.st1 (by rw [← hL.2.1]; exact Nat.blt_eq.mp h1) hB))
  · exact h0.elim

theorem gm_s_fstore {k : Nat} (hx : p.tables.exec = Jvm.exec) (hb : c.code = cc) (hd : decode cc pc = .ok (.fstore k, 2)) (h0 : gm_sf st fun x r => gm_if (Nat.blt k ls.length) (gm_G p l e R s m args below meth c Q dC dI cy A ad0 n0 nL (pc + 2) (gm_st1 ls k (.float x)) r h cl sl)) : gm_G p l e R s m args below meth c Q dC dI cy A ad0 n0 nL pc ls st h cl sl := by
  unfold gm_sf at h0
  split at h0
  · obtain ⟨h1, h0⟩ := gm_if_of h0
    exact gm_lift h0 fun ad _ _ _ _ _ _ _ hL k => lv_fstore hx hb hd hL.has (by rw [← hL.2.1]; exact Nat.blt_eq.mp h1) rfl (fun lsB hB => k lsB (hL.st1 (by rw [← hL.2.1]; exact Nat.blt_eq.mp h1) hB))
  · exact h0.elim

theorem gm_s_iinc {k : Nat} {d : Int} (hx : p.tables.exec = Jvm.exec) (hb : c.code = cc) (hd : decode cc pc = .ok (.iinc k d, 3)) (h0 : gm_li (gm_nth ls k) fun x => gm_G p l e R s m args below meth c Q dC dI cy A ad0 n0 nL (pc + 3) (gm_st1 ls k (.int (x + gm_lit d))) st h cl sl) : gm_G p l e R s m args below meth c Q dC dI cy A ad0 n0 nL pc ls st h cl sl := by
  unfold gm_li at h0
  split at h0
  · rename_i x hq
    have hk : k < ls.length := by
      rw [gm_nth_some] at hq
      exact (List.getElem?_eq_some_iff.mp hq).1
    refine gm_lift h0 fun ad _ _ _ _ _ _ _ hL k2 => ?_
    obtain ⟨j, hj⟩ := List.getElem?_of_mem ((gm_lv_mem ad ls 0 (k, .int x)).mpr ⟨k, .int x, by rw [← gm_nth_some]; exact hq, by simp [gm_v]⟩)
    exact lv_iinc hx hb hd hL.has hj (by rw [gm_lit_ofInt]) (by rw [← hL.2.1]; exact hk) rfl (fun lsB hB => k2 lsB (hL.st1 (by rw [← hL.2.1]; exact hk) hB))
  · exact h0.elim

theorem gm_s_iadd (hx : p.tables.exec = Jvm.exec) (hb : c.code = cc) (hd : decode cc pc = .ok (.iadd, 1)) (h0 : gm_i2 st fun x y r => gm_G p l e R s m args below meth c Q dC dI cy A ad0 n0 nL (pc + 1) ls (.int (x + y) :: r) h cl sl) : gm_G p l e R s m args below meth c Q dC dI cy A ad0 n0 nL pc ls st h cl sl := by
  unfold gm_i2 at h0
  split at h0
  · exact gm_lift0 h0 fun _ _ _ _ _ k => lv_iadd hx hb hd k
  · exact h0.elim

theorem gm_s_isub (hx : p.tables.exec = Jvm.exec) (hb : c.code = cc) (hd : decode cc pc = .ok (.isub, 1)) (h0 : gm_i2 st fun x y r => gm_G p l e R s m args below meth c Q dC dI cy A ad0 n0 nL (pc + 1) ls (.int (x - y) :: r) h cl sl) : gm_G p l e R s m args below meth c Q dC dI cy A ad0 n0 nL pc ls st h cl sl := by
  unfold gm_i2 at h0
  split at h0
  · exact gm_lift0 h0 fun _ _ _ _ _ k => lv_isub hx hb hd k
  · exact h0.elim

theorem gm_s_imul (hx : p.tables.exec = Jvm.exec) (hb : c.code = cc) (hd : decode cc pc = .ok (.imul, 1)) (h0 : gm_i2 st fun x y r => gm_G p l e R s m args below meth c Q dC dI cy A ad0 n0 nL (pc + 1) ls (.int (x * y) :: r) h cl sl) : gm_G p l e R s m args below meth c Q dC dI cy A ad0 n0 nL pc ls st h cl sl := by
  unfold gm_i2 at h0
  split at h0
  · exact gm_lift0 h0 fun _ _ _ _ _ k => lv_imul hx hb hd k
  · exact h0.elim

theorem gm_s_iand (hx : p.tables.exec = Jvm.exec) (hb : c.code = cc) (hd : decode cc pc = .ok (.iand, 1)) (h0 : gm_i2 st fun x y r => gm_G p l e R s m args below meth c Q dC dI cy A ad0 n0 nL (pc + 1) ls (.int (x &&& y) :: r) h cl sl) : gm_G p l e R s m args below meth c Q dC dI cy A ad0 n0 nL pc ls st h cl sl := by
  unfold gm_i2 at h0
  split at h0
  · exact gm_lift0 h0 fun _ _ _ _ _ k => lv_iand hx hb hd k
  · exact h0.elim

theorem gm_s_ior (hx : p.tables.exec = Jvm.exec) (hb : c.code = cc) (hd : decode cc pc = .ok (.ior, 1)) (h0 : gm_i2 st fun x y r => gm_G p l e R s m args below meth c Q dC dI cy A ad0 n0 nL (pc + 1) ls (.int (x ||| y) :: r) h cl sl) : gm_G p l e R s m args below meth c Q dC dI cy A ad0 n0 nL pc ls st h cl sl := by
  unfold gm_i2 at h0
  split at h0
  · exact gm_lift0 h0 fun _ _ _ _ _ k => lv_ior hx hb hd k
  · exact h0.elim

theorem gm_s_ixor (hx : p.tables.exec = Jvm.exec) (hb : c.code = cc) (hd : decode cc pc = .ok (.ixor, 1)) (h0 : gm_i2 st fun x y r => gm_G p l e R s m args below meth c Q dC dI cy A ad0 n0 nL (pc + 1) ls (.int (x ^^^ y) :: r) h cl sl) : gm_G p l e R s m args below meth c Q dC dI cy A ad0 n0 nL pc ls st h cl sl := by
  unfold gm_i2 at h0
  split at h0
  · exact gm_lift0 h0 fun _ _ _ _ _ k => lv_ixor hx hb hd k
  · exact h0.elim

theorem gm_s_ishl (hx : p.tables.exec = Jvm.exec) (hb : c.code = cc) (hd : decode cc pc = .ok (.ishl, 1)) (h0 : gm_i2 st fun x y r => gm_G p l e R s m args below meth c Q dC dI cy A ad0 n0 nL (pc + 1) ls (.int (x <<< (y &&& 31)) :: r) h cl sl) : gm_G p l e R s m args below meth c Q dC dI cy A ad0 n0 nL pc ls st h cl sl := by
  unfold gm_i2 at h0
  split at h0
  · exact gm_lift0 h0 fun _ _ _ _ _ k => lv_ishl hx hb hd k
  · exact h0.elim

theorem gm_s_ishr (hx : p.tables.exec = Jvm.exec) (hb : c.code = cc) (hd : decode cc pc = .ok (.ishr, 1)) (h0 : gm_i2 st fun x y r => gm_G p l e R s m args below meth c Q dC dI cy A ad0 n0 nL (pc + 1) ls (.int (x >>> (y &&& 31)) :: r) h cl sl) : gm_G p l e R s m args below meth c Q dC dI cy A ad0 n0 nL pc ls st h cl sl := by
  unfold gm_i2 at h0
  split at h0
  · exact gm_lift0 h0 fun _ _ _ _ _ k => lv_ishr hx hb hd k
  · exact h0.elim

theorem gm_s_iushr (hx : p.tables.exec = Jvm.exec) (hb : c.code = cc) (hd : decode cc pc = .ok (.iushr, 1)) (h0 : gm_i2 st fun x y r => gm_G p l e R s m args below meth c Q dC dI cy A ad0 n0 nL (pc + 1) ls (.int ((x.toUInt32 >>> (y.toUInt32 &&& Int32.toUInt32 31)).toInt32) :: r) h cl sl) : gm_G p l e R s m args below meth c Q dC dI cy A ad0 n0 nL pc ls st h cl sl := by
  unfold gm_i2 at h0
  split at h0
  · exact gm_lift0 h0 fun _ _ _ _ _ k => lv_iushr hx hb hd rfl k
  · exact h0.elim

theorem gm_s_idiv (hx : p.tables.exec = Jvm.exec) (hb : c.code = cc) (hd : decode cc pc = .ok (.idiv, 1)) (h0 : gm_i2 st fun x y r => ¬ y = 0 ∧ gm_G p l e R s m args below meth c Q dC dI cy A ad0 n0 nL (pc + 1) ls (.int (x / y) :: r) h cl sl) : gm_G p l e R s m args below meth c Q dC dI cy A ad0 n0 nL pc ls st h cl sl := by
  unfold gm_i2 at h0
  split at h0
  · exact gm_lift0 h0.2 fun _ _ _ _ _ k => lv_idiv hx hb hd h0.1 k
  · exact h0.elim

theorem gm_s_irem (hx : p.tables.exec = Jvm.exec) (hb : c.code = cc) (hd : decode cc pc = .ok (.irem, 1)) (h0 : gm_i2 st fun x y r => ¬ y = 0 ∧ gm_G p l e R s m args below meth c Q dC dI cy A ad0 n0 nL (pc + 1) ls (.int (x - x / y * y) :: r) h cl sl) : gm_G p l e R s m args below meth c Q dC dI cy A ad0 n0 nL pc ls st h cl sl := by
  unfold gm_i2 at h0
  split at h0
  · exact gm_lift0 h0.2 fun _ _ _ _ _ k => lv_irem hx hb hd h0.1 k
  · exact h0.elim

theorem gm_s_ladd (hx : p.tables.exec = Jvm.exec) (hb : c.code = cc) (hd : decode cc pc = .ok (.ladd, 1)) (h0 : gm_l2 st fun x y r => gm_G p l e R s m args below meth c Q dC dI cy A ad0 n0 nL (pc + 1) ls (.long (x + y) :: r) h cl sl) : gm_G p l e R s m args below meth c Q dC dI cy A ad0 n0 nL pc ls st h cl sl := by
  unfold gm_l2 at h0
  split at h0
  · exact gm_lift0 h0 fun _ _ _ _ _ k => lv_ladd hx hb hd k
  · exact h0.elim

theorem gm_s_lmul (hx : p.tables.exec = Jvm.exec) (hb : c.code = cc) (hd : decode cc pc = .ok (.lmul, 1)) (h0 : gm_l2 st fun x y r => gm_G p l e R s m args below meth c Q dC dI cy A ad0 n0 nL (pc + 1) ls (.long (x * y) :: r) h cl sl) : gm_G p l e R s m args below meth c Q dC dI cy A ad0 n0 nL pc ls st h cl sl := by
  unfold gm_l2 at h0
  split at h0
  · exact gm_lift0 h0 fun _ _ _ _ _ k => lv_lmul hx hb hd k
  · exact h0.elim

theorem gm_s_lsub (hx : p.tables.exec = Jvm.exec) (hb : c.code = cc) (hd : decode cc pc = .ok (.lsub, 1)) (h0 : gm_l2 st fun x y r => gm_G p l e R s m args below meth c Q dC dI cy A ad0 n0 nL (pc + 1) ls (.long (x - y) :: r) h cl sl) : gm_G p l e R s m args below meth c Q dC dI cy A ad0 n0 nL pc ls st h cl sl := by
  unfold gm_l2 at h0
  split at h0
  · exact gm_lift0 h0 fun _ _ _ _ _ k => lv_lsub hx hb hd k
  · exact h0.elim

theorem gm_s_land (hx : p.tables.exec = Jvm.exec) (hb : c.code = cc) (hd : decode cc pc = .ok (.land, 1)) (h0 : gm_l2 st fun x y r => gm_G p l e R s m args below meth c Q dC dI cy A ad0 n0 nL (pc + 1) ls (.long (x &&& y) :: r) h cl sl) : gm_G p l e R s m args below meth c Q dC dI cy A ad0 n0 nL pc ls st h cl sl := by
  unfold gm_l2 at h0
  split at h0
  · exact gm_lift0 h0 fun _ _ _ _ _ k => lv_land hx hb hd k
  · exact h0.elim

theorem gm_s_lor (hx : p.tables.exec = Jvm.exec) (hb : c.code = cc) (hd : decode cc pc = .ok (.lor, 1)) (h0 : gm_l2 st fun x y r => gm_G p l e R s m args below meth c Q dC dI cy A ad0 n0 nL (pc + 1) ls (.long (x ||| y) :: r) h cl sl) : gm_G p l e R s m args below meth c Q dC dI cy A ad0 n0 nL pc ls st h cl sl := by
  unfold gm_l2 at h0
  split at h0
  · exact gm_lift0 h0 fun _ _ _ _ _ k => lv_lor hx hb hd k
  · exact h0.elim

theorem gm_s_lxor (hx : p.tables.exec = Jvm.exec) (hb : c.code = cc) (hd : decode cc pc = .ok (.lxor, 1)) (h0 : gm_l2 st fun x y r => gm_G p l e R s m args below meth c Q dC dI cy A ad0 n0 nL (pc + 1) ls (.long (x ^^^ y) :: r) h cl sl) : gm_G p l e R s m args below meth c Q dC dI cy A ad0 n0 nL pc ls st h cl sl := by
  unfold gm_l2 at h0
  split at h0
  · exact gm_lift0 h0 fun _ _ _ _ _ k => lv_lxor hx hb hd k
  · exact h0.elim

theorem gm_s_lshl (hx : p.tables.exec = Jvm.exec) (hb : c.code = cc) (hd : decode cc pc = .ok (.lshl, 1)) (h0 : gm_i1 st fun y r => gm_l1 r fun x r => gm_G p l e R s m args below meth c Q dC dI cy A ad0 n0 nL (pc + 1) ls (.long (x <<< (y.toInt64 &&& 63)) :: r) h cl sl) : gm_G p l e R s m args below meth c Q dC dI cy A ad0 n0 nL pc ls st h cl sl := by
  unfold gm_i1 at h0
  split at h0
  · unfold gm_l1 at h0
    split at h0
    · exact gm_lift0 h0 fun _ _ _ _ _ k => lv_lshl hx hb hd rfl k
    · exact h0.elim
  · exact h0.elim

theorem gm_s_lshr (hx : p.tables.exec = Jvm.exec) (hb : c.code = cc) (hd : decode cc pc = .ok (.lshr, 1)) (h0 : gm_i1 st fun y r => gm_l1 r fun x r => gm_G p l e R s m args below meth c Q dC dI cy A ad0 n0 nL (pc + 1) ls (.long (x >>> (y.toInt64 &&& 63)) :: r) h cl sl) : gm_G p l e R s m args below meth c Q dC dI cy A ad0 n0 nL pc ls st h cl sl := by
  unfold gm_i1 at h0
  split at h0
  · unfold gm_l1 at h0
    split at h0
    · exact gm_lift0 h0 fun _ _ _ _ _ k => lv_lshr hx hb hd rfl k
    · exact h0.elim
  · exact h0.elim

theorem gm_s_lcmp (hx : p.tables.exec = Jvm.exec) (hb : c.code = cc) (hd : decode cc pc = .ok (.lcmp, 1)) (h0 : gm_l2 st fun x y r => gm_G p l e R s m args below meth c Q dC dI cy A ad0 n0 nL (pc + 1) ls (.int (lg_cmp x y) :: r) h cl sl) : gm_G p l e R s m args below meth c Q dC dI cy A ad0 n0 nL pc ls st h cl sl := by
  unfold gm_l2 at h0
  split at h0
  · exact gm_lift0 h0 fun _ _ _ _ _ k => W.lcmp hx hb hd k
  · exact h0.elim

theorem gm_s_ineg (hx : p.tables.exec = Jvm.exec) (hb : c.code = cc) (hd : decode cc pc = .ok (.ineg, 1)) (h0 : gm_i1 st fun x r => gm_G p l e R s m args below meth c Q dC dI cy A ad0 n0 nL (pc + 1) ls (.int (-x) :: r) h cl sl) : gm_G p l e R s m args below meth c Q dC dI cy A ad0 n0 nL pc ls st h cl sl := by
  unfold gm_i1 at h0
  split at h0
  · exact gm_lift0 h0 fun _ _ _ _ _ k => lv_ineg hx hb hd k
  · exact h0.elim

theorem gm_s_lneg (hx : p.tables.exec = Jvm.exec) (hb : c.code = cc) (hd : decode cc pc = .ok (.lneg, 1)) (h0 : gm_l1 st fun x r => gm_G p l e R s m args below meth c Q dC dI cy A ad0 n0 nL (pc + 1) ls (.long (-x) :: r) h cl sl) : gm_G p l e R s m args below meth c Q dC dI cy A ad0 n0 nL pc ls st h cl sl := by
  unfold gm_l1 at h0
  split at h0
  · exact gm_lift0 h0 fun _ _ _ _ _ k => lv_lneg hx hb hd k
  · exact h0.elim

theorem gm_s_l2i (hx : p.tables.exec = Jvm.exec) (hb : c.code = cc) (hd : decode cc pc = .ok (.l2i, 1)) (h0 : gm_l1 st fun x r => gm_G p l e R s m args below meth c Q dC dI cy A ad0 n0 nL (pc + 1) ls (.int x.toInt32 :: r) h cl sl) : gm_G p l e R s m args below meth c Q dC dI cy A ad0 n0 nL pc ls st h cl sl := by
  unfold gm_l1 at h0
  split at h0
  · exact gm_lift0 h0 fun _ _ _ _ _ k => lv_l2i hx hb hd rfl k
  · exact h0.elim

theorem gm_s_i2l (hx : p.tables.exec = Jvm.exec) (hb : c.code = cc) (hd : decode cc pc = .ok (.i2l, 1)) (h0 : gm_i1 st fun x r => gm_G p l e R s m args below meth c Q dC dI cy A ad0 n0 nL (pc + 1) ls (.long x.toInt64 :: r) h cl sl) : gm_G p l e R s m args below meth c Q dC dI cy A ad0 n0 nL pc ls st h cl sl := by
  unfold gm_i1 at h0
  split at h0
  · exact gm_lift0 h0 fun _ _ _ _ _ k => lv_i2l hx hb hd rfl k
  · exact h0.elim

theorem gm_s_i2c (hx : p.tables.exec = Jvm.exec) (hb : c.code = cc) (hd : decode cc pc = .ok (.i2c, 1)) (h0 : gm_i1 st fun x r => gm_G p l e R s m args below meth c Q dC dI cy A ad0 n0 nL (pc + 1) ls (.int (x.toUInt32 % 65536).toInt32 :: r) h cl sl) : gm_G p l e R s m args below meth c Q dC dI cy A ad0 n0 nL pc ls st h cl sl := by
  unfold gm_i1 at h0
  split at h0
  · exact gm_lift0 h0 fun _ _ _ _ _ k => lv_i2c hx hb hd rfl k
  · exact h0.elim

theorem gm_s_i2f (hx : p.tables.exec = Jvm.exec) (hb : c.code = cc) (hd : decode cc pc = .ok (.i2f, 1)) (h0 : gm_i1 st fun x r => gm_G p l e R s m args below meth c Q dC dI cy A ad0 n0 nL (pc + 1) ls (.float (FP.i2f x) :: r) h cl sl) : gm_G p l e R s m args below meth c Q dC dI cy A ad0 n0 nL pc ls st h cl sl := by
  unfold gm_i1 at h0
  split at h0
  · exact gm_lift0 h0 fun _ _ _ _ _ k => lv_i2f hx hb hd k
  · exact h0.elim

theorem gm_s_f2d (hx : p.tables.exec = Jvm.exec) (hb : c.code = cc) (hd : decode cc pc = .ok (.f2d, 1)) (h0 : gm_sf st fun x r => vf_n64 (FP.f2d x) ∧ gm_G p l e R s m args below meth c Q dC dI cy A ad0 n0 nL (pc + 1) ls (.double (FP.f2d x) :: r) h cl sl) : gm_G p l e R s m args below meth c Q dC dI cy A ad0 n0 nL pc ls st h cl sl := by
  unfold gm_sf at h0
  split at h0
  · exact gm_lift0 h0.2 fun _ _ _ _ _ k => lv_f2d hx hb hd h0.1 k
  · exact h0.elim
theorem gm_s_fdiv {x y : UInt32} {r : List Value} (hx : p.tables.exec = Jvm.exec) (hb : c.code = cc) (hd : decode cc pc = .ok (.fdiv, 1)) (h0 : vf_n32 (FP.fdiv x y) ∧ gm_G p l e R s m args below meth c Q dC dI cy A ad0 n0 nL (pc + 1) ls (.float (FP.fdiv x y) :: r) h cl sl) : gm_G p l e R s m args below meth c Q dC dI cy A ad0 n0 nL pc ls (.float y :: .float x :: r) h cl sl :=
  gm_lift0 h0.2 fun _ _ _ _ _ k => lv_fdiv hx hb hd h0.1 k
theorem gm_s_fcmp {x y : UInt32} {r : List Value} {op : CmpOp} (hx : p.tables.exec = Jvm.exec) (hb : c.code = cc) (hd : decode cc pc = .ok (.fcmp op, 1)) (h0 : gm_G p l e R s m args below meth c Q dC dI cy A ad0 n0 nL (pc + 1) ls (.int (Op.cmpValue (FP.fcmp x y) op) :: r) h cl sl) : gm_G p l e R s m args below meth c Q dC dI cy A ad0 n0 nL pc ls (.float y :: .float x :: r) h cl sl :=
  gm_lift0 h0 fun _ _ _ _ _ k => lv_fcmp hx hb hd k
theorem gm_s_dcmp {x y : UInt64} {r : List Value} {op : CmpOp} (hx : p.tables.exec = Jvm.exec) (hb : c.code = cc) (hd : decode cc pc = .ok (.dcmp op, 1)) (h0 : gm_G p l e R s m args below meth c Q dC dI cy A ad0 n0 nL (pc + 1) ls (.int (Op.cmpValue (FP.dcmp x y) op) :: r) h cl sl) : gm_G p l e R s m args below meth c Q dC dI cy A ad0 n0 nL pc ls (.double y :: .double x :: r) h cl sl :=
  gm_lift0 h0 fun _ _ _ _ _ k => lv_dcmp hx hb hd k
theorem gm_c1_cat (ad : Nat → Nat) {v : Value} (h : gm_c1 v = true) : (gm_v ad v).category = 1 := by
  cases v <;> first | rfl | cases h
theorem gm_s_dup {v : Value} {r : List Value} (hx : p.tables.exec = Jvm.exec) (hb : c.code = cc) (hd : decode cc pc = .ok (.dup, 1)) (h0 : gm_if (gm_c1 v) (gm_G p l e R s m args below meth c Q dC dI cy A ad0 n0 nL (pc + 1) ls (v :: v :: r) h cl sl)) : gm_G p l e R s m args below meth c Q dC dI cy A ad0 n0 nL pc ls (v :: r) h cl sl :=
  gm_lift0 (gm_if_of h0).2 fun ad _ _ _ _ k => lv_dup hx hb hd (gm_c1_cat ad (gm_if_of h0).1) k
theorem gm_s_dup_x1 {v w : Value} {r : List Value} (hx : p.tables.exec = Jvm.exec) (hb : c.code = cc) (hd : decode cc pc = .ok (.dup_x1, 1)) (h0 : gm_if (gm_c1 v) (gm_if (gm_c1 w) (gm_G p l e R s m args below meth c Q dC dI cy A ad0 n0 nL (pc + 1) ls (v :: w :: v :: r) h cl sl))) : gm_G p l e R s m args below meth c Q dC dI cy A ad0 n0 nL pc ls (v :: w :: r) h cl sl :=
  gm_lift0 (gm_if_of (gm_if_of h0).2).2 fun ad _ _ _ _ k => lv_dup_x1 hx hb hd (gm_c1_cat ad (gm_if_of h0).1) (gm_c1_cat ad (gm_if_of (gm_if_of h0).2).1) k
theorem gm_s_dup2 {v w : Value} {r : List Value} (hx : p.tables.exec = Jvm.exec) (hb : c.code = cc) (hd : decode cc pc = .ok (.dup2, 1)) (h0 : gm_if (gm_c1 v) (gm_if (gm_c1 w) (gm_G p l e R s m args below meth c Q dC dI cy A ad0 n0 nL (pc + 1) ls (v :: w :: v :: w :: r) h cl sl))) : gm_G p l e R s m args below meth c Q dC dI cy A ad0 n0 nL pc ls (v :: w :: r) h cl sl :=
  gm_lift0 (gm_if_of (gm_if_of h0).2).2 fun ad _ _ _ _ k => lv_dup2_11 hx hb hd (gm_c1_cat ad (gm_if_of h0).1) (gm_c1_cat ad (gm_if_of (gm_if_of h0).2).1) k
theorem gm_s_pop {v : Value} {r : List Value} (hx : p.tables.exec = Jvm.exec) (hb : c.code = cc) (hd : decode cc pc = .ok (.pop, 1)) (h0 : gm_if (gm_c1 v) (gm_G p l e R s m args below meth c Q dC dI cy A ad0 n0 nL (pc + 1) ls r h cl sl)) : gm_G p l e R s m args below meth c Q dC dI cy A ad0 n0 nL pc ls (v :: r) h cl sl :=
  gm_lift0 (gm_if_of h0).2 fun ad _ _ _ _ k => lv_pop hx hb hd (gm_c1_cat ad (gm_if_of h0).1) k
theorem gm_jmp_of {o : Int} {f : Nat → Prop} (h : gm_jmp pc o f) : ∃ t : Nat, (pc : Int) + o = (t : Int) ∧ f t := by
  unfold gm_jmp at h
  split at h
  · rename_i t ht
    exact ⟨t, ht, h⟩
  · exact h.elim
theorem gm_s_goto {o : Int} (hx : p.tables.exec = Jvm.exec) (hb : c.code = cc) (hd : decode cc pc = .ok (.goto o, 3)) (h0 : gm_jmp pc o fun t => gm_G p l e R s m args below meth c Q dC dI cy A ad0 n0 nL t ls st h cl sl) : gm_G p l e R s m args below meth c Q dC dI cy A ad0 n0 nL pc ls st h cl sl := by
  obtain ⟨t, ht, h0⟩ := gm_jmp_of h0
  exact gm_lift0 h0 fun _ _ _ _ _ k => lv_goto hx hb hd ht k

theorem gm_s_if_eq {x : Int32} {r : List Value} {o : Int} (hx : p.tables.exec = Jvm.exec) (hb : c.code = cc) (hd : decode cc pc = .ok (.ifCond .eq o, 3)) (h0 : gm_jmp pc o fun t => (gm_ic .eq x 0 → gm_G p l e R s m args below meth c Q dC dI cy A ad0 n0 nL t ls r h cl sl) ∧ (¬ gm_ic .eq x 0 → gm_G p l e R s m args below meth c Q dC dI cy A ad0 n0 nL (pc + 3) ls r h cl sl)) : gm_G p l e R s m args below meth c Q dC dI cy A ad0 n0 nL pc ls (.int x :: r) h cl sl := by
  obtain ⟨t, ht, h1, h2⟩ := gm_jmp_of h0
  by_cases hc : gm_ic .eq x 0
  · exact gm_lift0 (h1 hc) fun _ _ _ _ _ k => lv_if_eq hx hb hd ht (fun _ => k) (fun z => absurd hc z)
  · exact gm_lift0 (h2 hc) fun _ _ _ _ _ k => lv_if_eq hx hb hd ht (fun z => absurd z hc) (fun _ => k)
theorem gm_s_icmp_eq {x y : Int32} {r : List Value} {o : Int} (hx : p.tables.exec = Jvm.exec) (hb : c.code = cc) (hd : decode cc pc = .ok (.if_icmp .eq o, 3)) (h0 : gm_jmp pc o fun t => (gm_ic .eq x y → gm_G p l e R s m args below meth c Q dC dI cy A ad0 n0 nL t ls r h cl sl) ∧ (¬ gm_ic .eq x y → gm_G p l e R s m args below meth c Q dC dI cy A ad0 n0 nL (pc + 3) ls r h cl sl)) : gm_G p l e R s m args below meth c Q dC dI cy A ad0 n0 nL pc ls (.int y :: .int x :: r) h cl sl := by
  obtain ⟨t, ht, h1, h2⟩ := gm_jmp_of h0
  by_cases hc : gm_ic .eq x y
  · exact gm_lift0 (h1 hc) fun _ _ _ _ _ k => lv_icmp_eq hx hb hd ht (fun _ => k) (fun z => absurd hc z)
  · exact gm_lift0 (h2 hc) fun _ _ _ _ _ k => lv_icmp_eq hx hb hd ht (fun z => absurd z hc) (fun _ => k)

theorem gm_s_if_ne {x : Int32} {r : List Value} {o : Int} (hx : p.tables.exec = Jvm.exec) (hb : c.code = cc) (hd : decode cc pc = .ok (.ifCond .ne o, 3)) (h0 : gm_jmp pc o fun t => (gm_ic .ne x 0 → gm_G p l e R s m args below meth c Q dC dI cy A ad0 n0 nL t ls r h cl sl) ∧ (¬ gm_ic .ne x 0 → gm_G p l e R s m args below meth c Q dC dI cy A ad0 n0 nL (pc + 3) ls r h cl sl)) : gm_G p l e R s m args below meth c Q dC dI cy A ad0 n0 nL pc ls (.int x :: r) h cl sl := by
  obtain ⟨t, ht, h1, h2⟩ := gm_jmp_of h0
  by_cases hc : gm_ic .ne x 0
  · exact gm_lift0 (h1 hc) fun _ _ _ _ _ k => lv_if_ne hx hb hd ht (fun _ => k) (fun z => absurd z hc)
  · exact gm_lift0 (h2 hc) fun _ _ _ _ _ k => lv_if_ne hx hb hd ht (fun z => absurd z hc) (fun _ => k)
theorem gm_s_icmp_ne {x y : Int32} {r : List Value} {o : Int} (hx : p.tables.exec = Jvm.exec) (hb : c.code = cc) (hd : decode cc pc = .ok (.if_icmp .ne o, 3)) (h0 : gm_jmp pc o fun t => (gm_ic .ne x y → gm_G p l e R s m args below meth c Q dC dI cy A ad0 n0 nL t ls r h cl sl) ∧ (¬ gm_ic .ne x y → gm_G p l e R s m args below meth c Q dC dI cy A ad0 n0 nL (pc + 3) ls r h cl sl)) : gm_G p l e R s m args below meth c Q dC dI cy A ad0 n0 nL pc ls (.int y :: .int x :: r) h cl sl := by
  obtain ⟨t, ht, h1, h2⟩ := gm_jmp_of h0
  by_cases hc : gm_ic .ne x y
  · exact gm_lift0 (h1 hc) fun _ _ _ _ _ k => lv_icmp_ne hx hb hd ht (fun _ => k) (fun z => absurd z hc)
  · exact gm_lift0 (h2 hc) fun _ _ _ _ _ k => lv_icmp_ne hx hb hd ht (fun z => absurd z hc) (fun _ => k)

theorem gm_s_if_lt {x : Int32} {r : List Value} {o : Int} (hx : p.tables.exec = Jvm.exec) (hb : c.code = cc) (hd : decode cc pc = .ok (.ifCond .lt o, 3)) (h0 : gm_jmp pc o fun t => (gm_ic .lt x 0 → gm_G p l e R s m args below meth c Q dC dI cy A ad0 n0 nL t ls r h cl sl) ∧ (¬ gm_ic .lt x 0 → gm_G p l e R s m args below meth c Q dC dI cy A ad0 n0 nL (pc + 3) ls r h cl sl)) : gm_G p l e R s m args below meth c Q dC dI cy A ad0 n0 nL pc ls (.int x :: r) h cl sl := by
  obtain ⟨t, ht, h1, h2⟩ := gm_jmp_of h0
  by_cases hc : gm_ic .lt x 0
  · exact gm_lift0 (h1 hc) fun _ _ _ _ _ k => lv_if_lt hx hb hd ht (fun _ => k) (fun z => absurd hc z)
  · exact gm_lift0 (h2 hc) fun _ _ _ _ _ k => lv_if_lt hx hb hd ht (fun z => absurd z hc) (fun _ => k)
theorem gm_s_icmp_lt {x y : Int32} {r : List Value} {o : Int} (hx : p.tables.exec = Jvm.exec) (hb : c.code = cc) (hd : decode cc pc = .ok (.if_icmp .lt o, 3)) (h0 : gm_jmp pc o fun t => (gm_ic .lt x y → gm_G p l e R s m args below meth c Q dC dI cy A ad0 n0 nL t ls r h cl sl) ∧ (¬ gm_ic .lt x y → gm_G p l e R s m args below meth c Q dC dI cy A ad0 n0 nL (pc + 3) ls r h cl sl)) : gm_G p l e R s m args below meth c Q dC dI cy A ad0 n0 nL pc ls (.int y :: .int x :: r) h cl sl := by
  obtain ⟨t, ht, h1, h2⟩ := gm_jmp_of h0
  by_cases hc : gm_ic .lt x y
  · exact gm_lift0 (h1 hc) fun _ _ _ _ _ k => lv_icmp_lt hx hb hd ht (fun _ => k) (fun z => absurd hc z)
  · exact gm_lift0 (h2 hc) fun _ _ _ _ _ k => lv_icmp_lt hx hb hd ht (fun z => absurd z hc) (fun _ => k)

theorem gm_s_if_ge {x : Int32} {r : List Value} {o : Int} (hx : p.tables.exec = Jvm.exec) (hb : c.code = cc) (hd : decode cc pc = .ok (.ifCond .ge o, 3)) (h0 : gm_jmp pc o fun t => (gm_ic .ge x 0 → gm_G p l e R s m args below meth c Q dC dI cy A ad0 n0 nL t ls r h cl sl) ∧ (¬ gm_ic .ge x 0 → gm_G p l e R s m args below meth c Q dC dI cy A ad0 n0 nL (pc + 3) ls r h cl sl)) : gm_G p l e R s m args below meth c Q dC dI cy A ad0 n0 nL pc ls (.int x :: r) h cl sl := by
  obtain ⟨t, ht, h1, h2⟩ := gm_jmp_of h0
  by_cases hc : gm_ic .ge x 0
  · exact gm_lift0 (h1 hc) fun _ _ _ _ _ k => lv_if_ge hx hb hd ht (fun _ => k) (fun z => absurd hc z)
  · exact gm_lift0 (h2 hc) fun _ _ _ _ _ k => lv_if_ge hx hb hd ht (fun z => absurd z hc) (fun _ => k)
theorem gm_s_icmp_ge {x y : Int32} {r : List Value} {o : Int} (hx : p.tables.exec = Jvm.exec) (hb : c.code = cc) (hd : decode cc pc = .ok (.if_icmp .ge o, 3)) (h0 : gm_jmp pc o fun t => (gm_ic .ge x y → gm_G p l e R s m args below meth c Q dC dI cy A ad0 n0 nL t ls r h cl sl) ∧ (¬ gm_ic .ge x y → gm_G p l e R s m args below meth c Q dC dI cy A ad0 n0 nL (pc + 3) ls r h cl sl)) : gm_G p l e R s m args below meth c Q dC dI cy A ad0 n0 nL pc ls (.int y :: .int x :: r) h cl sl := by
  obtain ⟨t, ht, h1, h2⟩ := gm_jmp_of h0
  by_cases hc : gm_ic .ge x y
  · exact gm_lift0 (h1 hc) fun _ _ _ _ _ k => lv_icmp_ge hx hb hd ht (fun _ => k) (fun z => absurd hc z)
  · exact gm_lift0 (h2 hc) fun _ _ _ _ _ k => lv_icmp_ge hx hb hd ht (fun z => absurd z hc) (fun _ => k)

theorem gm_s_if_gt {x : Int32} {r : List Value} {o : Int} (hx : p.tables.exec = Jvm.exec) (hb : c.code = cc) (hd : decode cc pc = .ok (.ifCond .gt o, 3)) (h0 : gm_jmp pc o fun t => (gm_ic .gt x 0 → gm_G p l e R s m args below meth c Q dC dI cy A ad0 n0 nL t ls r h cl sl) ∧ (¬ gm_ic .gt x 0 → gm_G p l e R s m args below meth c Q dC dI cy A ad0 n0 nL (pc + 3) ls r h cl sl)) : gm_G p l e R s m args below meth c Q dC dI cy A ad0 n0 nL pc ls (.int x :: r) h cl sl := by
  obtain ⟨t, ht, h1, h2⟩ := gm_jmp_of h0
  by_cases hc : gm_ic .gt x 0
  · exact gm_lift0 (h1 hc) fun _ _ _ _ _ k => lv_if_gt hx hb hd ht (fun _ => k) (fun z => absurd hc z)
  · exact gm_lift0 (h2 hc) fun _ _ _ _ _ k => lv_if_gt hx hb hd ht (fun z => absurd z hc) (fun _ => k)
theorem gm_s_icmp_gt {x y : Int32} {r : List Value} {o : Int} (hx : p.tables.exec = Jvm.exec) (hb : c.code = cc) (hd : decode cc pc = .ok (.if_icmp .gt o, 3)) (h0 : gm_jmp pc o fun t => (gm_ic .gt x y → gm_G p l e R s m args below meth c Q dC dI cy A ad0 n0 nL t ls r h cl sl) ∧ (¬ gm_ic .gt x y → gm_G p l e R s m args below meth c Q dC dI cy A ad0 n0 nL (pc + 3) ls r h cl sl)) : gm_G p l e R s m args below meth c Q dC dI cy A ad0 n0 nL pc ls (.int y :: .int x :: r) h cl sl := by
  obtain ⟨t, ht, h1, h2⟩ := gm_jmp_of h0
  by_cases hc : gm_ic .gt x y
  · exact gm_lift0 (h1 hc) fun _ _ _ _ _ k => lv_icmp_gt hx hb hd ht (fun _ => k) (fun z => absurd hc z)
  · exact gm_lift0 (h2 hc) fun _ _ _ _ _ k => lv_icmp_gt hx hb hd ht (fun z => absurd z hc) (fun _ => k)

theorem gm_s_if_le {x : Int32} {r : List Value} {o : Int} (hx : p.tables.exec = Jvm.exec) (hb : c.code = cc) (hd : decode cc pc = .ok (.ifCond .le o, 3)) (h0 : gm_jmp pc o fun t => (gm_ic .le x 0 → gm_G p l e R s m args below meth c Q dC dI cy A ad0 n0 nL t ls r h cl sl) ∧ (¬ gm_ic .le x 0 → gm_G p l e R s m args below meth c Q dC dI cy A ad0 n0 nL (pc + 3) ls r h cl sl)) : gm_G p l e R s m args below meth c Q dC dI cy A ad0 n0 nL pc ls (.int x :: r) h cl sl := by
  obtain ⟨t, ht, h1, h2⟩ := gm_jmp_of h0
  by_cases hc : gm_ic .le x 0
  · exact gm_lift0 (h1 hc) fun _ _ _ _ _ k => lv_if_le hx hb hd ht (fun _ => k) (fun z => absurd hc z)
  · exact gm_lift0 (h2 hc) fun _ _ _ _ _ k => lv_if_le hx hb hd ht (fun z => absurd z hc) (fun _ => k)
theorem gm_s_icmp_le {x y : Int32} {r : List Value} {o : Int} (hx : p.tables.exec = Jvm.exec) (hb : c.code = cc) (hd : decode cc pc = .ok (.if_icmp .le o, 3)) (h0 : gm_jmp pc o fun t => (gm_ic .le x y → gm_G p l e R s m args below meth c Q dC dI cy A ad0 n0 nL t ls r h cl sl) ∧ (¬ gm_ic .le x y → gm_G p l e R s m args below meth c Q dC dI cy A ad0 n0 nL (pc + 3) ls r h cl sl)) : gm_G p l e R s m args below meth c Q dC dI cy A ad0 n0 nL pc ls (.int y :: .int x :: r) h cl sl := by
  obtain ⟨t, ht, h1, h2⟩ := gm_jmp_of h0
  by_cases hc : gm_ic .le x y
  · exact gm_lift0 (h1 hc) fun _ _ _ _ _ k => lv_icmp_le hx hb hd ht (fun _ => k) (fun z => absurd hc z)
  · exact gm_lift0 (h2 hc) fun _ _ _ _ _ k => lv_icmp_le hx hb hd ht (fun z => absurd z hc) (fun _ => k)

end GM
