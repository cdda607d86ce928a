/-! SOUNDNESS, 3: what is made; calls -/
def gm_exs : List String := ["java/lang/IllegalArgumentException", "java/lang/IllegalStateException", "java/lang/IndexOutOfBoundsException", "java/util/NoSuchElementException", "java/lang/UnsupportedOperationException"]
def gm_strs : List (Nat × String) := [(71, "the term has no such symbol"), (82, "the term can't be made"), (91, "there is no such term"), (96, "a letter is between 0 and 3"), (99, "a region is between 0 and 15"), (158, "the term has no such prime implicant"), (163, "no rule can rewrite anything in the term"), (170, "the step can't be made"), (178, "there are 6 assumptions"), (191, "there is no assumption"), (208, "no assumption denies the region"), (216, "the goal does not follow"), (221, "the goal does not demand an element"), (226, "there is no witness"), (231, "there is no such kind"), (233, "there is no goal"), (251, "the least counterexample has no such element"), (265, "the goal follows"), (267, "no such number of elements")]
/-- private members of nest mates that are called -/
def gm_nests : List (String × Nat × MethodName) := [(RX6, 9, yX4_init), (RX6, 18, yX1_init), (RX1, 11, yX5_init), (RX0, 34, yX6_isIn), (RX6, 32, yX3_init), (RX6, 39, yX2_init), (RX4, 89, yX6_isIn), (RX3, 42, yX6_isIn), (RX2, 50, yX6_isIn)]
/-- words of the tables that aren't 'good', but stay -/
def gm_isn : Cond → Bool
  | .castable .. => true
  | .declares .. => true
  | _ => false
/-- what a throw needs of the state -/
def gm_Ex (A : Nat → Prop) (U : State) : Prop := vx_Zq Bundle.tN "UNASSIGNED_STACK" Bundle.steD A U U.heap ∧ vx_Zq Bundle.tN "SUPPRESSED_SENTINEL" Bundle.listD A U U.heap ∧ (∀ w ∈ lw_tbl, gm_isn w = true → va_Nw w U) ∧ (∀ q ∈ gm_strs, ∃ a, vk_R RX6 q.1 q.2 a U) ∧ (∀ E ∈ gm_exs, ∀ E2 ∈ gm_exs, E ≠ E2 → va_Nc E E2 U) ∧ (∀ q ∈ gm_nests, va_Nw (.methodLinkNest q.1 q.2.1 q.2.2 RX6) U)
theorem gm_isn_warm {w : Cond} {s U : State} (hn : gm_isn w = true) (hW : s.WarmedH U.vm) (h : va_Nw w s) : va_Nw w U := by
  unfold gm_isn at hn
  split at hn
  · exact va_Nw.warmC hW h
  · exact va_tabs rfl (rfl : (s.setVm U.vm).vm = U.vm) (by rw [Cond.declares_setVm hW.alike]; exact h)
  · cases hn
theorem gm_isn_tab {w : Cond} (hn : gm_isn w = true) : w.onTables = true := by
  unfold gm_isn at hn
  split at hn
  · rfl
  · rfl
  · cases hn
theorem gm_Ex.next {A A1 : Nat → Prop} {s U : State} {H : Heap} {locs : List Loc} (h : gm_Ex A s) (hS : va_S A s.heap H locs) (hW : s.WarmedH U.vm) (hU : U.heap = H) (hA : ∀ q, A1 q → A q) : gm_Ex A1 U := by
  obtain ⟨h1, h2, h3, h4, h5, h6⟩ := h
  refine ⟨?_, ?_, fun w hw hn => gm_isn_warm hn hW (h3 w hw hn), fun q hq => ?_, fun E hE E2 hE2 hn => va_Nc.moved hW.alike (h5 E hE E2 hE2 hn), fun q hq => va_Nw.warmM hW (h6 q hq)⟩
  · rw [hU]
    exact ((h1.kept hS.2.1).moved hW.alike).narrow hA
  · rw [hU]
    exact ((h2.kept hS.2.1).moved hW.alike).narrow hA
  · obtain ⟨a, ha⟩ := h4 q hq
    exact ⟨a, vk_R.warm hW ha⟩
theorem gm_Ex.blind {A : Nat → Prop} {U : State} (h : gm_Ex A U) (g : JFrame) (mk : MethodId) (a : Array Value) : gm_Ex A (U.calling g mk a) := by
  obtain ⟨h1, h2, h3, h4, h5, h6⟩ := h
  refine ⟨vx_Zq.moved (u := U) (U := U.calling g mk a) (Vm.Alike.refl U.vm) h1, vx_Zq.moved (u := U) (U := U.calling g mk a) (Vm.Alike.refl U.vm) h2, fun w hw hn => va_Nw.same (gm_isn_tab hn) (u := U) rfl (h3 w hw hn), fun q hq => ?_, fun E hE E2 hE2 hn => va_Nc.moved (u := U) (U := U.calling g mk a) (Vm.Alike.refl U.vm) (h5 E hE E2 hE2 hn), fun q hq => va_Nw.same (u := U) rfl rfl (h6 q hq)⟩
  obtain ⟨b, hb⟩ := h4 q hq
  exact ⟨b, vk_R.same (u := U) rfl hb⟩
def gm_cw (M : pM) : Cond := match M.2.2.2.2.2.2.1 with
  | [] => .code M.2.1 M.2.2.1 M.2.2.2.1 M.2.2.2.2.1
  | q :: r => .codeWith M.2.1 M.2.2.1 M.2.2.2.1 M.2.2.2.2.1 (q :: r)
def gm_ws (M : pM) : List Cond := gm_cw M :: gm_U
def gm_rm (d c1 s1 : Nat) : Room := { frames := d + 12, cells := c1, slots := s1, locals := 60 * d + 150 }
def gm_Pc (dC : Nat → ClassId) (dI : Nat → Nat → Nat) (cy : Nat → ClassId) (ad : Nat → Nat) (h : pH) (av : List Value) (sz : Nat) : Array Value → State → Prop := va_Pc (av.map (gm_v ad)) (fun U => U.heap.size = sz ∧ va_P (dC, dI) vwCl (gm_W cy ad 0 h) U.heap ∧ va_K (dC, dI) vwCl (gm_tys cy) U ∧ va_D (fun _ => True) (gm_W cy ad 0 h) ∧ gm_Ex (va_A (gm_W cy ad 0 h) sz) U)
def gm_Q (dC : Nat → ClassId) (dI : Nat → Nat → Nat) (cy : Nat → ClassId) (ad : Nat → Nat) (h h1 : pH) (v : Option Value) (sz : Nat) : Array Value → State → Outcome → State → Prop := fun _ st oc t =>
  (∃ ad1, gm_ag h.length ad ad1 h1 ∧ oc = .returned (v.map (gm_v ad1)) ∧ va_P (dC, dI) vwCl (gm_W cy ad1 0 h1) t.heap ∧ va_D (va_A (gm_W cy ad 0 h) sz) (gm_W cy ad1 0 h1)) ∧ va_F (va_A (gm_W cy ad 0 h) sz) st t
def gm_XC (E0 : String) (dC : Nat → ClassId) (dI : Nat → Nat → Nat) (cy : Nat → ClassId) (ad : Nat → Nat) (h h1 : pH) (sz : Nat) : String → State → State → Prop := fun E st t =>
  E = E0 ∧ va_P (dC, dI) vwCl (gm_W cy ad 0 h1) t.heap ∧ va_D (va_A (gm_W cy ad 0 h) sz) (gm_W cy ad 0 h1) ∧ va_F (va_A (gm_W cy ad 0 h) sz) st t
def gm_Met1 (l : Launch) (d : Nat) (M : pM) (av : List Value) (h : pH) (v : Option Value) (h1 : pH) (c1 s1 : Nat) : Prop := ∀ (dC : Nat → ClassId) (dI : Nat → Nat → Nat) (cy : Nat → ClassId) (ad : Nat → Nat) (sz : Nat),
  Met l M.2.1 (gm_ws M) (gm_rm d c1 s1) (gm_Pc dC dI cy ad h av sz) (gm_Q dC dI cy ad h h1 v sz) c1 s1 (va_A (gm_W cy ad 0 h) sz)
def gm_Met2 (l : Launch) (d : Nat) (M : pM) (av : List Value) (h : pH) (E : String) (h1 : pH) (c1 s1 : Nat) : Prop := ∀ (dC : Nat → ClassId) (dI : Nat → Nat → Nat) (cy : Nat → ClassId) (ad : Nat → Nat) (sz : Nat),
  vx_Met l M.2.1 (gm_ws M) (gm_rm d c1 s1) (gm_Pc dC dI cy ad h av sz) (fun _ _ _ _ => False) (gm_XC E dC dI cy ad h h1 sz) c1 s1 (va_A (gm_W cy ad 0 h) sz)
theorem gm_Pc_blind {dC : Nat → ClassId} {dI : Nat → Nat → Nat} {cy : Nat → ClassId} {ad : Nat → Nat} {h : pH} {av : List Value} {sz : Nat} : FrameBlind (gm_Pc dC dI cy ad h av sz) := by
  intro a U g mk q
  obtain ⟨q0, q1, qP, qK, qD, qE⟩ := q
  exact ⟨q0, q1, qP, va_K.moved (u := U) (U := U.calling g mk a) (Vm.Alike.refl U.vm) qK, qD, qE.blind g mk a⟩
section GM
variable {p : Program} {l : Launch} {e : Env} {R : Room} {s : State} {m : MethodId} {args : Array Value} {below : List Frame} {meth : Method} {c : Code} {Q : State → Prop} {dC : Nat → ClassId} {dI : Nat → Nat → Nat} {cy : Nat → ClassId} {A : Nat → Prop} {ad0 : Nat → Nat} {n0 nL : Nat}
variable {pc n : Nat} {ls : pL} {st : List Value} {h : pH} {cl sl : Nat} {cc : ByteArray}
def gm_nr : List Value → Bool
  | [] => true
  | .ref _ :: _ => false
  | _ :: r => gm_nr r
theorem gm_nr_v (ad : Nat → Nat) : ∀ {fs : List Value}, gm_nr fs = true → fs.map (gm_v ad) = fs
  | [], _ => rfl
  | v :: r, h => by
    cases v with
    | ref a => simp [gm_nr] at h
    | _ =>
      simp only [List.map_cons, gm_v]
      rw [gm_nr_v ad (fs := r) (by simpa [gm_nr] using h)]
theorem gm_up_ag {q n : Nat} {ad : Nat → Nat} (hn : n < 88888) : ∀ i, i < n ∨ i = 88888 → va_up ad n q i = ad i := by
  intro i hi
  have : i ≠ n := by omega
  simp [va_up, this]
theorem gm_ag.push {q : Nat} {ad : Nat → Nat} {x : pE} (h1 : gm_ag n0 ad0 ad h) (hn : h.length < 88888) : gm_ag n0 ad0 (va_up ad h.length q) (h ++ [x]) := by
  obtain ⟨a1, a2, a3, a4⟩ := h1
  refine ⟨by simp; omega, fun hz => by simp at hz; omega, fun i hi => ?_, ?_⟩
  · rw [gm_up_ag hn i (Or.inl (by omega)), a3 i hi]
  · rw [gm_up_ag hn 88888 (Or.inr rfl), a4]
/-- a cell has come: the world is the list with it behind -/
theorem gm_grow {x : pE} {pc2 : Nat} {r : List Value} {q c1 s1 : Nat} {H1 : Heap} {locs : List Loc} {lsA : Array Slot} {ad : Nat → Nat} (h0 : gm_G p l e R s m args below meth c Q dC dI cy A ad0 n0 nL pc2 ls (.ref h.length :: r) (h ++ [x]) c1 s1) (hf : (gm_frs h.length r && (gm_frl h.length ls && gm_frh h.length h)) = true) (hn : h.length < 88888)
    (hag : gm_ag n0 ad0 ad h) (hL : gm_hL lsA nL ad ls) (hx1 : gm_e cy (va_up ad h.length q) x = gm_e cy ad x)
    (hP : va_P (dC, dI) vwCl (gm_W cy ad 0 h ++ [(q, gm_e cy ad x)]) H1) (hD : va_D A (gm_W cy ad 0 h ++ [(q, gm_e cy ad x)])) (hS : va_S A s.heap H1 locs) : W p l e R s m args below meth c H1 locs c1 s1 Q (F0 m pc2 lsA (.ref q :: r.map (gm_v ad))) := by
  simp only [Bool.and_eq_true] at hf
  obtain ⟨f1, f2, f3⟩ := hf
  have hup := gm_up_ag (q := q) (ad := ad) hn
  have he : gm_W cy (va_up ad h.length q) 0 (h ++ [x]) = gm_W cy ad 0 h ++ [(q, gm_e cy ad x)] := by
    rw [gm_W_app, gm_frh_W hup (by omega) f3, hx1]
    simp [va_up]
  have hk := h0.2 (va_up ad h.length q) H1 locs lsA (hag.push hn) (by rw [he]; exact hP) (by rw [he]; exact hD) hS (hL.moved hup f2)
  have hst : (Value.ref h.length :: r).map (gm_v (va_up ad h.length q)) = .ref q :: r.map (gm_v ad) := by
    simp only [List.map_cons, gm_frs_v hup f1]
    simp [gm_v, va_up]
  rw [hst] at hk
  exact hk
theorem gm_s_new {own : String} {k : Nat} {q : Nat × List Value} (hx : p.tables.exec = Jvm.exec) (hb : c.code = cc) (hown : s.vm.findClass own = some m.cls) (hts : ∀ w ∈ gm_U, w.before args s = true) (hcu : ∀ (ci : Nat) (r : vw_C), vwCl[ci]? = some r → ∀ w ∈ u_ws r.1 r.2.1 r.2.2, w ∈ gm_U) (hK : va_K (dC, dI) vwCl (gm_tys cy) s) (hA : ∀ q, s.heap.size ≤ q → A q)
    (hN : ∃ r : vw_C, vwCl[q.1]? = some r ∧ q.2.length = r.2.2 ∧ gm_nr q.2 = true ∧ Cond.classLink own k r.1 ∈ gm_U ∧ Cond.instantiable r.1 r.2.2 ∈ gm_U ∧ Cond.initialized r.1 ∈ gm_U ∧ ∀ j, j < r.2.2 → defaultValue (gm_tyf q.1 j) = vp_V q.2 j)
    (hd : decode cc pc = .ok (.new k, 3)) (hf : (gm_frs h.length st && (gm_frl h.length ls && gm_frh h.length h) && (gm_frs h.length q.2 && Nat.blt h.length 88888)) = true) (h0 : gm_G p l e R s m args below meth c Q dC dI cy A ad0 n0 nL (pc + 3) ls (.ref h.length :: st) (h ++ [.inr q]) (cl + 1) (sl + q.2.length)) : gm_G p l e R s m args below meth c Q dC dI cy A ad0 n0 nL pc ls st h cl sl := by
  obtain ⟨r, h1, h2, h3, h4, h5, h6, h7⟩ := hN
  have hbd := h0.1
  refine ⟨⟨by omega, by omega⟩, fun ad H locs lsA hag hP hD hS hL => ?_⟩
  have hf2 := Bool.and_eq_true_iff.mp hf
  have hn : h.length < 88888 := Nat.blt_eq.mp (Bool.and_eq_true_iff.mp hf2.2).2
  refine va_new (ci := q.1) (fs := q.2) (C := r.1) (T := r.2.1) (N := r.2.2) (Ts := gm_U) hx hb hts (hcu q.1 r h1) (gm_tyf q.1) (gm_cl_ty q.1 r h1).1 hown (hts _ h4) (hts _ h5) (hts _ h6) hK hP hD hS hA h1 h7 hbd.1 (by rw [← h2]; exact hbd.2) hd (fun a H1 hP1 hD1 hS1 => ?_)
  have he : gm_e cy ad (.inr q) = .inr (q.1, q.2) := by simp [gm_e, gm_nr_v ad h3]
  have he2 : gm_e cy (va_up ad h.length a) (.inr q) = gm_e cy ad (.inr q) := by simp [gm_e, gm_nr_v _ h3]
  rw [← h2]
  exact gm_grow h0 hf2.1 hn hag hL he2 (by rw [he]; exact hP1) (by rw [he]; exact hD1) hS1
theorem gm_s_newarray {t : ArrayType} {x : Int32} {r : List Value} {E : pE} (hx : p.tables.exec = Jvm.exec) (hb : c.code = cc) (hts : ∀ w ∈ gm_U, w.before args s = true) (hcw : Cond.arrayClass (newarray.typeOf t) ∈ gm_U) (hK : va_K (dC, dI) vwCl (gm_tys cy) s) (hA : ∀ q, s.heap.size ≤ q → A q)
    (hd : decode cc pc = .ok (.newarray t, 2)) (hneg : ¬ x < 0) (hle : Nat.ble x.toNatClampNeg 100000 = true) (hf : (gm_frs h.length r && (gm_frl h.length ls && gm_frh h.length h) && Nat.blt h.length 88888) = true) (hz : gm_zero t x.toNatClampNeg = some E) (h0 : gm_G p l e R s m args below meth c Q dC dI cy A ad0 n0 nL (pc + 2) ls (.ref h.length :: r) (h ++ [E]) (cl + 1) (sl + x.toNatClampNeg)) : gm_G p l e R s m args below meth c Q dC dI cy A ad0 n0 nL pc ls (.int x :: r) h cl sl := by
  have hbd := h0.1
  refine ⟨⟨by omega, by omega⟩, fun ad H locs lsA hag hP hD hS hL => ?_⟩
  have hf2 := Bool.and_eq_true_iff.mp hf
  have hn : h.length < 88888 := Nat.blt_eq.mp hf2.2
  have hle2 : x.toNatClampNeg ≤ 100000 := Nat.le_of_ble_eq_true hle
  have go : ∀ (tg : Nat) (ty : FieldType) (a0 : vp_A), newarray.typeOf t = ty → (gm_tys cy)[tg]? = some (cy tg, ty) → E = .inl (tg, a0) → (∀ cA : ClassId, vp_cell cA a0 = arrV cA x.toNatClampNeg (fun _ => defaultValue ty)) → x.toNatClampNeg * componentBytes ty ≤ 536870912 → (∀ (u v : ClassId), va_RA s u ty → va_RA s v ty → u = v) → W p l e R s m args below meth c H locs cl sl Q (F0 m pc lsA ((Value.int x :: r).map (gm_v ad))) := by
    intro tg ty a0 h1 h2 h3 h4 h5 h6
    subst h3
    refine va_newa (ty := ty) (a0 := a0) (N' := x.toNatClampNeg) hx hb (hts _ hcw) h1 hK hP hD hS hA h4 hneg rfl h5 hbd.1 hbd.2 hd (fun a cA H1 hK1 hP1 hD1 hS1 => ?_)
    have hcA : cA = cy tg := h6 cA (cy tg) (hK1.2 (gm_tys cy).length (cA, ty) (by simp)).2 (hK.2 tg (cy tg, ty) h2).2
    subst hcA
    exact gm_grow (x := .inl (tg, a0)) h0 hf2.1 hn hag hL rfl hP1 hD1 hS1
  have uniq : ∀ (ty : FieldType), (∀ u, va_RA s u ty → s.vm.findClass ("[" ++ ty.toString) = some u) → ∀ (u v : ClassId), va_RA s u ty → va_RA s v ty → u = v := fun ty hy u v hu hv => Option.some.inj ((hy u hu).symm.trans (hy v hv))
  cases t with
  | int => cases hz; exact go 0 .int _ rfl rfl rfl (fun cA => rfl) (by simp [componentBytes]; omega) (uniq _ fun u hu => hu)
  | char => cases hz; exact go 1 .char _ rfl rfl rfl (fun cA => rfl) (by simp [componentBytes]; omega) (uniq _ fun u hu => hu)
  | boolean => cases hz; exact go 2 .boolean _ rfl rfl rfl (fun cA => rfl) (by simp [componentBytes]; omega) (uniq _ fun u hu => hu)
  | byte => cases hz; exact go 3 .byte _ rfl rfl rfl (fun cA => rfl) (by simp [componentBytes]; omega) (uniq _ fun u hu => hu)
  | _ => cases hz
/-- q thrown over this method's frame -/
def gm_GX (p : Program) (l : Launch) (e : Env) (R : Room) (s : State) (m : MethodId) (args : Array Value) (below : List Frame) (meth : Method) (c : Code) (Q : State → Prop) (dC : Nat → ClassId) (dI : Nat → Nat → Nat) (cy : Nat → ClassId) (A : Nat → Prop) (ad0 : Nat → Nat) (n0 nL : Nat) (pc : Nat) (ls : pL) (E : String) (h : pH) (cl sl : Nat) : Prop :=
  (cl ≤ R.cells ∧ sl ≤ R.slots) ∧ ∀ (ad : Nat → Nat) (H : Heap) (locs : List Loc) (lsA : Array Slot) (rest : List Value) (q : Addr) (ce : Cell), gm_ag n0 ad0 ad h → va_P (dC, dI) vwCl (gm_W cy ad 0 h) H → va_D A (gm_W cy ad 0 h) → va_S A s.heap H locs → gm_hL lsA nL ad ls → H[q]? = some ce → ce.vm = .none → s.vm.findClass E = some ce.cls → vx_W p l e R s m args below meth c H locs cl sl Q (F0 m pc lsA rest) q
/-- behind a call that returns -/
theorem gm_after {v : Option Value} {h1 : pH} {c1 s1 : Nat} {ad : Nat → Nat} {H : Heap} {locs : List Loc} {lsA : Array Slot} {rest st0 : List Value} {aA : Array Value}
    (hr : va_Run p l e R s m args below meth c H locs cl sl c1 s1 (F0 m pc lsA st0) (rest.map (gm_v ad)) (gm_Q dC dI cy ad h h1 v H.size aA) (va_A (gm_W cy ad 0 h) H.size))
    (hA : ∀ q, s.heap.size ≤ q → A q) (hag : gm_ag n0 ad0 ad h) (hD : va_D A (gm_W cy ad 0 h)) (hS : va_S A s.heap H locs) (hL : gm_hL lsA nL ad ls)
    (hG : gm_G p l e R s m args below meth c Q dC dI cy A ad0 n0 nL (pc + 3) ls (gm_vl v rest) h1 (cl + c1) (sl + s1)) (hkeep : h1.length = h.length ∨ (gm_frs h.length rest && gm_frl h.length ls) = true) : W p l e R s m args below meth c H locs cl sl Q (F0 m pc lsA st0) := by
  intro T hT X
  obtain ⟨v2, st₀, t, T', L, e0, X', hL2, e1, e2, ⟨⟨ad1, g1, hv, hP1, hD1⟩, hF⟩, stp⟩ := hr T hT X
  have hA1 : ∀ q, va_A (gm_W cy ad 0 h) H.size q → A q := va_free hD hS hA (List.range (gm_W cy ad 0 h).length) (by
    apply List.ext_getElem?
    intro i
    simp only [List.getElem?_map]
    by_cases hi : i < (gm_W cy ad 0 h).length
    · simp [List.getElem?_range hi, hi]
    · simp only [Nat.not_lt] at hi
      rw [List.getElem?_eq_none (by simpa using hi), List.getElem?_eq_none hi]
      rfl)
  obtain ⟨k1, k2, k3⟩ := vx_keep (A1 := va_A (gm_W cy ad 0 h) H.size) e0 e1 hS (fun q _ hq => hA1 q hq) hA1 hL2 hF
  cases hv
  have key : (∀ i : Nat, i < ls.length → True) ∧ gm_hL lsA nL ad1 ls ∧ rest.map (gm_v ad1) = rest.map (gm_v ad) := by
    refine ⟨fun _ _ => trivial, ?_⟩
    rcases hkeep with hk | hk
    · rw [g1.2.1 hk]
      exact ⟨hL, rfl⟩
    · have hk2 := Bool.and_eq_true_iff.mp hk
      have hup : ∀ i, i < h.length ∨ i = 88888 → ad1 i = ad i := fun i hi => hi.elim (fun z => g1.2.2.1 i z) (fun z => by rw [z]; exact g1.2.2.2)
      exact ⟨hL.moved hup hk2.2, gm_frs_v hup hk2.1⟩
  have hag1 : gm_ag n0 ad0 ad1 h1 := by
    obtain ⟨a1, a2, a3, a4⟩ := hag
    obtain ⟨b1, b2, b3, b4⟩ := g1
    refine ⟨by omega, fun hz => ?_, fun i hi => ?_, by rw [b4, a4]⟩
    · rw [b2 (by omega), a2 (by omega)]
    · rw [b3 i (by omega), a3 i hi]
  have hk := hG.2 ad1 T'.heap (locs ++ L) lsA hag1 (by rw [e1]; exact hP1) (hD1.weaken (fun k q _ hq => hA1 q.1 hq)) k3 key.2.1
  have hst : (gm_vl v rest).map (gm_v ad1) = (v.map (gm_v ad1)).toList ++ rest.map (gm_v ad) := by
    rw [← key.2.2]
    cases v <;> rfl
  rw [hst] at hk
  obtain ⟨t2, a1, b1⟩ := hk T' rfl X'
  exact ⟨t2, stp t2 a1, b1⟩
/-- behind a call that throws -/
theorem gm_afterX {E : String} {h1 : pH} {c1 s1 : Nat} {ad : Nat → Nat} {H : Heap} {locs : List Loc} {lsA : Array Slot} {rest st0 : List Value} {aA : Array Value}
    (hr : vx_Run p l e R s m args below meth c H locs cl sl c1 s1 (F0 m pc lsA st0) rest ((fun _ _ _ _ => False : Array Value → State → Outcome → State → Prop) aA) (gm_XC E dC dI cy ad h h1 H.size) (va_A (gm_W cy ad 0 h) H.size))
    (hA : ∀ q, s.heap.size ≤ q → A q) (hlen : h1.length = h.length) (hag : gm_ag n0 ad0 ad h) (hD : va_D A (gm_W cy ad 0 h)) (hS : va_S A s.heap H locs) (hL : gm_hL lsA nL ad ls)
    (hG : gm_GX p l e R s m args below meth c Q dC dI cy A ad0 n0 nL pc ls E h1 (cl + c1) (sl + s1)) : W p l e R s m args below meth c H locs cl sl Q (F0 m pc lsA st0) := by
  intro T hT X
  rcases hr T hT X with ⟨v, st₀, t, T', L, e0, X', hL2, e1, e2, hF, stp⟩ | ⟨q, st₀, t, T', L, E2, ce, e0, X', hL2, e1, e2, ⟨rfl, hP1, hD1, hF⟩, hce, hcv, hcl, stp⟩
  · exact hF.elim
  · have hA1 : ∀ q, va_A (gm_W cy ad 0 h) H.size q → A q := va_free hD hS hA (List.range (gm_W cy ad 0 h).length) (by
      apply List.ext_getElem?
      intro i
      simp only [List.getElem?_map]
      by_cases hi : i < (gm_W cy ad 0 h).length
      · simp [List.getElem?_range hi, hi]
      · simp only [Nat.not_lt] at hi
        rw [List.getElem?_eq_none (by simpa using hi), List.getElem?_eq_none hi]
        rfl)
    obtain ⟨k1, k2, k3⟩ := vx_keep (A1 := va_A (gm_W cy ad 0 h) H.size) e0 e1 hS (fun q _ hq => hA1 q hq) hA1 hL2 hF
    have hag1 : gm_ag n0 ad0 ad h1 := by
      unfold gm_ag
      rw [hlen]
      exact hag
    obtain ⟨t2, a1, b1⟩ := hG.2 ad T'.heap (locs ++ L) lsA rest q ce hag1 (by rw [e1]; exact hP1) (hD1.weaken (fun k q _ hq => hA1 q.1 hq)) k3 hL (by rw [e1]; exact hce) hcv hcl T' rfl X'
    exact ⟨t2, stp.trans a1, b1⟩
end GM
