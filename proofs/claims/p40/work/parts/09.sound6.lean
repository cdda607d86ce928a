/-! SOUNDNESS, 6: a method, from its abstract run -/
def gm_c2 : Value → Bool
  | .long _ => true
  | .double _ => true
  | _ => false
/-- the locals of arguments: a long takes two -/
def gm_sl : List Value → pL
  | [] => []
  | v :: r => some v :: (bif gm_c2 v then none :: gm_sl r else gm_sl r)
def gm_args (n : Nat) (av : List Value) : pL := gm_sl av ++ List.replicate (n - gm_sum av) none
/-- sides of a run: nothing is made but by constructors, the arguments fit into the locals, only methods without handlers throw -/
def gm_sd (M : pM) (av : List Value) (h : pH) (o : pO) (h1 : pH) : Prop := (M.2.1.name = "<init>" ∨ h1.length = h.length) ∧ Nat.ble av.length (gm_sum av) = true ∧ Nat.ble (gm_sum av) M.2.2.2.1 = true ∧ match o with
  | .inl _ => True
  | .inr _ => M.2.2.2.2.2.2.1 = [] ∧ h1.length = h.length ∧ plainName M.2.1.cls = true
/-- the abstract run of a method, calls at most d deep -/
def gm_Sp (MT : Nat → Option pM) : Nat → pS
  | 0 => fun _ _ _ _ _ _ _ => False
  | d + 1 => fun mid av h o h1 c1 s1 => ∃ M : pM, MT mid = some M ∧ gm_sd M av h o h1 ∧ ∀ (G : pG) (X : pX), gm_cl M gm_tyf none (gm_Sp MT d) G X → X o h1 c1 s1 → G 0 (gm_args M.2.2.2.1 av) [] h 0 0
def gm_names : List String := ["java/lang/RuntimeException", "java/lang/Exception"]
/-- what the tables say of an exception class made by Gimlet -/
def gm_Eok (k ic : Nat) (E : String) : Prop := E ∈ gm_exs ∧ Bundle.fit E = true ∧ Cond.classLink RX6 k E ∈ gm_U ∧ Cond.initialized E ∈ gm_U ∧ Cond.castable E E ∈ lw_tbl ∧ ∃ (ix : Nat) (rx : ByteArray), decode rx 0 = .ok (.aload_n 0, 1) ∧ decode rx 1 = .ok (.aload_n 1, 1) ∧ decode rx 2 = .ok (.invokespecial ix, 3) ∧ decode rx 5 = .ok (.return_, 1) ∧ ∀ w ∈ gx_at RX6 ic E ix rx gm_names, w ∈ lw_tbl ∧ (goodWord w || gm_isn w) = true
/-- the places where a method throws, and its handlers -/
def gm_Tok (M : pM) : Prop :=
  (∀ pc k len E, gm_asc M.2.2.2.2.2.1 pc = some (.new k, len) → gm_asc M.2.2.2.2.2.2.2.2.2.2.2 k = some E → ∃ (ic : Nat) (q : Nat × String), q ∈ gm_strs ∧ M.1 = RX6 ∧ gm_Eok k ic E ∧ decode M.2.2.1 pc = .ok (.new k, 3) ∧ decode M.2.2.1 (pc + 3) = .ok (.dup, 1) ∧
    ((decode M.2.2.1 (pc + 4) = .ok (.ldc q.1, 2) ∧ decode M.2.2.1 (pc + 6) = .ok (.invokespecial ic, 3) ∧ decode M.2.2.1 (pc + 9) = .ok (.athrow, 1)) ∨
     (decode M.2.2.1 (pc + 4) = .ok (.ldc_w q.1, 3) ∧ decode M.2.2.1 (pc + 7) = .ok (.invokespecial ic, 3) ∧ decode M.2.2.1 (pc + 10) = .ok (.athrow, 1)))) ∧
  (∀ q ∈ M.2.2.2.2.2.2.1, ∃ E, gm_asc M.2.2.2.2.2.2.2.2.2.2.2 q.2.2.2 = some E ∧ E ∈ gm_exs ∧ Cond.classLink M.1 q.2.2.2 E ∈ gm_U ∧ q.2.2.2 ≠ 0 ∧ Cond.castable E E ∈ lw_tbl) ∧ (M.2.2.2.2.2.2.1 ≠ [] → plainName M.2.1.cls = true)
/-- all that the tables say -/
def gm_Aok (MT : Nat → Option pM) : Prop :=
  (∀ (ci : Nat) (r : vw_C), vwCl[ci]? = some r → ∀ w ∈ u_ws r.1 r.2.1 r.2.2, w ∈ gm_U) ∧ (∀ t ∈ gm_arrs, Cond.arrayClass t ∈ gm_U) ∧ (∀ mid M, MT mid = some M → gm_Mok M ∧ gm_Cok M ∧ gm_Kok MT M.1 M.2.2.2.2.2.2.2 ∧ gm_Tok M)
theorem gm_hL.st1n {lsA lsB : Array Slot} {nL : Nat} {ad : Nat → Nat} {ls : pL} {i : Nat} {v V : Value} (h : gm_hL lsA nL ad ls) (hi : i < nL)
    (hB : lv_has lsB nL ((i, V) :: (gm_lv ad 0 ls).filter (fun q => !(q.1 == i) && !(q.1 + 1 == i && q.2.category == 2)))) : gm_hL lsB nL ad (gm_set (gm_st1 ls i v) i none) := by
  obtain ⟨b1, b2, b3⟩ := hB
  have hlen : (gm_set (gm_st1 ls i v) i none).length = nL := by
    cases i with
    | zero => simp [gm_st1, gm_set_eq, h.2.1]
    | succ i =>
      simp only [gm_st1, gm_set_eq]
      cases gm_cat2 (gm_nth ls i) <;> simp [h.2.1]
  refine ⟨b1, hlen, b2, fun j w hj => ?_⟩
  have rest : j ≠ i → ls[j]? = some (some w) → ¬ (j + 1 = i ∧ w.category = 2) → lsB[j]? = some (.val (gm_v ad w)) := by
    intro h1 h2 h3
    refine b3 (j, gm_v ad w) (List.mem_cons_of_mem _ (List.mem_filter.mpr ⟨(gm_lv_mem ad ls 0 _).mpr ⟨j, w, h2, by simp⟩, ?_⟩))
    simp only [Bool.and_eq_true, Bool.not_eq_true', beq_eq_false_iff_ne, ne_eq, Bool.and_eq_false_iff, gm_v_cat]
    refine ⟨h1, ?_⟩
    by_cases h4 : j + 1 = i
    · exact Or.inr fun h5 => h3 ⟨h4, h5⟩
    · exact Or.inl h4
  have hil : i < ls.length := by rw [h.2.1]; exact hi
  rw [gm_set_eq] at hj
  by_cases hj0 : j = i
  · subst hj0
    rw [List.getElem?_set_self (by
      cases j with
      | zero => simp [gm_st1, gm_set_eq]; omega
      | succ j =>
        simp only [gm_st1, gm_set_eq]
        cases gm_cat2 (gm_nth ls j) <;> simp <;> omega)] at hj
    cases hj
  · rw [List.getElem?_set_ne (Ne.symm hj0)] at hj
    cases i with
    | zero =>
      simp only [gm_st1, gm_set_eq] at hj
      rw [List.getElem?_set_ne (Ne.symm hj0)] at hj
      exact rest hj0 hj (by omega)
    | succ i =>
      simp only [gm_st1, gm_set_eq] at hj
      rw [List.getElem?_set_ne (Ne.symm hj0)] at hj
      cases hc : gm_cat2 (gm_nth ls i) with
      | false =>
        rw [hc] at hj
        simp only [cond_false] at hj
        refine rest hj0 hj (fun hz => ?_)
        have hji : j = i := by omega
        subst hji
        rw [gm_cat2_of hj, hz.2] at hc
        simp at hc
      | true =>
        rw [hc] at hj
        simp only [cond_true] at hj
        by_cases hji : j = i
        · subst hji
          rw [List.getElem?_set_self (by omega)] at hj
          cases hj
        · rw [List.getElem?_set_ne (Ne.symm hji)] at hj
          exact rest hj0 hj (fun hz => hji (by omega))
theorem gm_c2_cat (v : Value) : gm_c2 v = true ↔ v.category = 2 := by cases v <;> simp [gm_c2, Value.category]
theorem gm_sum_s (v : Value) (r : List Value) : gm_sum (v :: r) = (bif gm_c2 v then 2 else 1) + gm_sum r := by cases v <;> rfl
theorem gm_sl_n : ∀ av : List Value, (gm_sl av).length = gm_sum av
  | [] => rfl
  | v :: r => by
    rw [gm_sum_s, ← gm_sl_n r]
    show (some v :: (bif gm_c2 v then none :: gm_sl r else gm_sl r)).length = _
    cases gm_c2 v
    · show (gm_sl r).length + 1 = 1 + (gm_sl r).length
      omega
    · show (gm_sl r).length + 1 + 1 = 2 + (gm_sl r).length
      omega
theorem gm_lg_n (ad : Nat → Nat) : ∀ av : List Value, (lg_sl (av.map (gm_v ad))).length = gm_sum av
  | [] => rfl
  | v :: r => by
    have ih := gm_lg_n ad r
    rw [gm_sum_s, ← ih]
    simp only [lg_sl, List.map_cons, List.flatMap_cons, List.length_append, gm_v_cat]
    cases v <;> simp [gm_c2, Value.category]
theorem gm_lv_args (ad : Nat → Nat) : ∀ (av : List Value) (k i : Nat) (v : Value), (gm_sl av)[i]? = some (some v) → (k + i, gm_v ad v) ∈ lv_args k (av.map (gm_v ad))
  | [], k, i, v, h => by simp [gm_sl] at h
  | w :: r, k, i, v, h => by
    have e : lv_args k ((w :: r).map (gm_v ad)) = (k, gm_v ad w) :: lv_args (if w.category = 2 then k + 2 else k + 1) (r.map (gm_v ad)) := by
      rw [List.map_cons, ← gm_v_cat ad w]
      rfl
    rw [e]
    cases i with
    | zero =>
      have h0 : some (some w) = some (some v) := h
      cases h0
      exact List.mem_cons_self
    | succ i =>
      refine List.mem_cons_of_mem _ ?_
      have h' : (bif gm_c2 w then none :: gm_sl r else gm_sl r)[i]? = some (some v) := h
      cases hc : gm_c2 w with
      | true =>
        rw [hc] at h'
        rw [if_pos ((gm_c2_cat w).mp hc)]
        cases i with
        | zero =>
          have h2 : (some none : Option (Option Value)) = some (some v) := h'
          cases h2
        | succ i =>
          have h2 : (gm_sl r)[i]? = some (some v) := h'
          have := gm_lv_args ad r (k + 2) i v h2
          rw [show k + (i + 1 + 1) = k + 2 + i by omega]
          exact this
      | false =>
        rw [hc] at h'
        rw [if_neg (fun z => by rw [(gm_c2_cat w).mpr z] at hc; cases hc)]
        have := gm_lv_args ad r (k + 1) i v h'
        rw [show k + (i + 1) = k + 1 + i by omega]
        exact this
theorem gm_entry {av : List Value} {ad : Nat → Nat} {n : Nat} (_hs : Nat.ble av.length (gm_sum av) = true) (hn : gm_sum av ≤ n) : gm_hL ((lg_sl (av.map (gm_v ad)) ++ List.replicate (n - (lg_sl (av.map (gm_v ad))).length) Slot.unset).toArray) n ad (gm_args n av) := by
  have hl := lv_entry (av.map (gm_v ad)) (n := n) (by rw [gm_lg_n]; exact hn)
  refine ⟨hl.1, by simp [gm_args, gm_sl_n]; omega, hl.2.1, fun i v hv => ?_⟩
  have hi : i < (gm_sl av).length := by
    rcases Nat.lt_or_ge i (gm_sl av).length with z | z
    · exact z
    · exfalso
      simp only [gm_args] at hv
      rw [List.getElem?_append_right z] at hv
      have := List.mem_of_getElem? hv
      simp at this
  have hv2 : (gm_sl av)[i]? = some (some v) := by
    simp only [gm_args] at hv
    rw [List.getElem?_append_left hi] at hv
    exact hv
  have := hl.2.2 (0 + i, gm_v ad v) (gm_lv_args ad av 0 i v hv2)
  simpa using this
theorem gm_hd_of {tn : List (Nat × String)} {E : String} {pc : Nat} : ∀ {hh : List (Nat × Nat × Nat × Nat)} {t : Nat}, gm_hd tn E pc hh = some t → ∃ pre x suf, hh = pre ++ x :: suf ∧ x.2.2.1 = t ∧ x.1 ≤ pc ∧ pc < x.2.1 ∧ gm_asc tn x.2.2.2 = some E ∧ ∀ z ∈ pre, ¬ (z.1 ≤ pc ∧ pc < z.2.1) ∨ gm_asc tn z.2.2.2 ≠ some E
  | [], t, h => by simp [gm_hd] at h
  | (a, b, t0, k) :: r, t, h => by
    simp only [gm_hd] at h
    cases hb : (Nat.ble a pc && Nat.blt pc b && (gm_asc tn k == some E)) with
    | true =>
      rw [hb] at h
      simp only [cond_true, Option.some.injEq] at h
      have h9 := Bool.and_eq_true_iff.mp hb
      have h8 := Bool.and_eq_true_iff.mp h9.1
      exact ⟨[], (a, b, t0, k), r, rfl, h, Nat.le_of_ble_eq_true h8.1, Nat.blt_eq.mp h8.2, by simpa using h9.2, fun z hz => by simp at hz⟩
    | false =>
      rw [hb] at h
      simp only [cond_false] at h
      obtain ⟨pre, x, suf, e1, e2, e3, e4, e5, e6⟩ := gm_hd_of h
      refine ⟨(a, b, t0, k) :: pre, x, suf, by rw [e1]; rfl, e2, e3, e4, e5, fun z hz => ?_⟩
      rcases List.mem_cons.mp hz with rfl | hz
      · by_cases g1 : a ≤ pc ∧ pc < b
        · refine Or.inr fun g2 => ?_
          rw [Nat.ble_eq_true_of_le g1.1, Nat.blt_eq.mpr g1.2, g2] at hb
          simp at hb
        · exact Or.inl g1
      · exact e6 z hz
section GM
variable {p : Program} {l : Launch} {e : Env} {R : Room} {s : State} {m : MethodId} {args : Array Value} {below : List Frame} {meth : Method} {c : Code} {Q : State → Prop} {dC : Nat → ClassId} {dI : Nat → Nat → Nat} {cy : Nat → ClassId} {A : Nat → Prop} {ad0 : Nat → Nat} {n0 nL : Nat}
/-- a handler of this method takes the exception -/
theorem gm_catch {M : pM} {X : pX} {pc t : Nat} {ls : pL} {E : String} {h : pH} {cl sl : Nat} (hx : p.tables.exec = Jvm.exec) (hb : c.code = M.2.2.1) (hown : s.vm.findClass M.1 = some m.cls) (hts : ∀ w ∈ gm_U, w.before args s = true) (hEx : gm_Ex A s) (hC : gm_Cok M) (hT : gm_Tok M) (htab : c.exceptionTable.toList = tableOf M.2.2.2.2.2.2.1)
    (ht : gm_hd M.2.2.2.2.2.2.2.2.2.2.2 E pc M.2.2.2.2.2.2.1 = some t) (hG : gm_thr M (gm_G p l e R s m args below meth c Q dC dI cy A ad0 n0 nL) X pc ls E h cl sl) : gm_GX p l e R s m args below meth c Q dC dI cy A ad0 n0 nL pc ls E h cl sl := by
  obtain ⟨pre, x, suf, e1, e2, e3, e4, e5, e6⟩ := gm_hd_of ht
  have hxin : x ∈ M.2.2.2.2.2.2.1 := by rw [e1]; exact List.mem_append_right _ List.mem_cons_self
  obtain ⟨E1, g1, g2, g3, g4, g5⟩ := hT.2.1 x hxin
  cases Option.some.inj (g1.symm.trans e5)
  unfold gm_thr at hG
  rw [ht] at hG
  dsimp only at hG
  have key : ∀ (k : Nat) (n2 : Nat), Nat.blt k ls.length = true → gm_G p l e R s m args below meth c Q dC dI cy A ad0 n0 nL (t + n2) (gm_set (gm_st1 ls k (.int 0)) k none) [] h cl sl → (∀ (H : Heap) (locs : List Loc) (lsA : Array Slot) (q : Addr) (lv : List (Nat × Value)), lv_has lsA nL lv → k < nL → (∀ lsB : Array Slot, lv_has lsB nL ((k, .ref q) :: lv.filter (fun q => !(q.1 == k) && !(q.1 + 1 == k && q.2.category == 2))) → W p l e R s m args below meth c H locs cl sl Q (F0 m (t + n2) lsB [])) → W p l e R s m args below meth c H locs cl sl Q (F0 m t lsA [.ref q])) → gm_GX p l e R s m args below meth c Q dC dI cy A ad0 n0 nL pc ls E h cl sl := by
    intro k n2 hk hG2 hrow
    refine ⟨hG2.1, fun ad H locs lsA rest q ce hag hP hD hS hL hce hcv hcl => ?_⟩
    have hkn : k < nL := by rw [← hL.2.1]; exact Nat.blt_eq.mp hk
    refine vx_catch (own := M.1) (name := E) (E := E) hown (tableOf pre) ⟨x.1, x.2.1, x.2.2.1, x.2.2.2⟩ (tableOf suf) (by rw [htab, e1]; simp [tableOf]) (fun z hz => ?_) (by simp [covers, e3, e4]) g4 (hts _ g3) (va_Nw.use rfl (hEx.2.2.1 _ g5 rfl)) hce hcv hcl ?_
    · obtain ⟨z0, hz0, rfl⟩ := List.mem_map.mp hz
      rcases e6 z0 hz0 with g | g
      · refine Or.inl ?_
        simp only [covers]
        by_cases w1 : z0.1 ≤ pc
        · by_cases w2 : pc < z0.2.1
          · exact absurd ⟨w1, w2⟩ g
          · simp [w2]
        · simp [w1]
      · have hz0in : z0 ∈ M.2.2.2.2.2.2.1 := by rw [e1]; exact List.mem_append_left _ hz0
        obtain ⟨E3, f1, f2, f3, f4, f5⟩ := hT.2.1 z0 hz0in
        refine Or.inr ⟨f4, E3, hts _ f3, hEx.2.2.2.2.1 E g2 E3 f2 (fun hz => g (by rw [f1, hz]))⟩
    · rw [e2]
      exact hrow H locs lsA q (gm_lv ad 0 ls) hL.has hkn (fun lsB hB => hG2.2 ad H locs lsB hag hP hD hS (hL.st1n hkn hB))
  split at hG
  · rename_i k len hk
    obtain ⟨hd, hlen⟩ := hC.1 _ _ _ hk
    have hl := Nat.eq_of_beq_eq_true hlen
    subst hl
    exact key k.val 1 (gm_if_of hG).1 (gm_if_of hG).2 (fun H locs lsA q lv h1 h2 h3 => lv_astore_n hx hb hd rfl h1 h2 rfl h3)
  · rename_i k len hk
    obtain ⟨hd, hlen⟩ := hC.1 _ _ _ hk
    have hl := Nat.eq_of_beq_eq_true hlen
    subst hl
    exact key k 2 (gm_if_of hG).1 (gm_if_of hG).2 (fun H locs lsA q lv h1 h2 h3 => lv_astore hx hb hd h1 h2 rfl h3)
  · exact hG.elim
end GM
