/-! SOUNDNESS, 4: calls, and the whole method -/
theorem gm_pop_of : ∀ {n : Nat} {acc st : List Value} {z : List Value × List Value}, gm_pop n acc st = some z → ∃ as : List Value, z.1 = as ++ acc ∧ as.length = n ∧ st = as.reverse ++ z.2
  | 0, acc, st, z, h => by
    simp only [gm_pop, Option.some.injEq] at h
    subst h
    exact ⟨[], rfl, rfl, rfl⟩
  | n + 1, acc, [], z, h => by simp [gm_pop] at h
  | n + 1, acc, v :: st, z, h => by
    simp only [gm_pop] at h
    obtain ⟨as, h1, h2, h3⟩ := gm_pop_of h
    refine ⟨as ++ [v], by rw [h1]; simp, by simp [h2], by rw [h3]; simp⟩
def gm_pd (y : MethodName) : Option Nat := (parseMethodDescriptor y.desc).map (fun d => d.parameters.length)
/-- what the tables say of a method -/
def gm_Mok (M : pM) : Prop := gm_cw M ∈ gm_U ∧ plainFor M.2.1 = true ∧ M.2.1.cls ≠ "java/lang/invoke/MethodHandle" ∧ M.2.1.cls ≠ "java/lang/invoke/VarHandle" ∧ M.2.2.2.1 ≤ 41 ∧ Cond.initialized M.2.1.cls ∈ gm_U ∧ M.1 = M.2.1.cls
/-- what the tables say of a call, by the place of the constant pool -/
def gm_mok (MT : Nat → Option pM) (own : String) (k : Nat) (q : Nat × Nat) : Prop :=
  (q.1 = 0 ∧ q.2 = 200 ∧ Cond.methodLink own k objectInit ∈ gm_U ∧ Cond.instanceMethod objectInit ∈ gm_U ∧ Cond.code objectInit ⟨#[0xb1]⟩ 1 none ∈ gm_U) ∨
  (∃ M2 : pM, MT q.1 = some M2 ∧ q.1 ≠ 0 ∧ (Cond.methodLink own k M2.2.1 ∈ gm_U ∨ ((50 ≤ q.2 ∧ q.2 < 100 ∨ 200 ≤ q.2) ∧ (own, k, M2.2.1) ∈ gm_nests)) ∧
    ((50 ≤ q.2 ∧ q.2 < 100 ∧ (own, k, M2.2.1) ∈ gm_nests ∧ M2.2.1.name ≠ "<init>" ∧ Cond.static M2.2.1 ∈ gm_U ∧ gm_pd M2.2.1 = some (q.2 - 50) ∧ M2.2.2.2.2.2.2.1 = []) ∨ (q.2 < 50 ∧ M2.2.1.name ≠ "<init>" ∧ Cond.static M2.2.1 ∈ gm_U ∧ gm_pd M2.2.1 = some q.2) ∨
     (100 ≤ q.2 ∧ q.2 < 200 ∧ M2.2.1.name ≠ "<init>" ∧ Cond.instanceMethod M2.2.1 ∈ gm_U ∧ Cond.selects M2.2.1.cls M2.2.1 M2.2.1 ∈ gm_U ∧ gm_pd M2.2.1 = some (q.2 - 100) ∧ (∃ (ci : Nat) (r : vw_C), q.1 / 1000 = ci + 1 ∧ vwCl[ci]? = some r ∧ r.1 = M2.2.1.cls) ∧ M2.2.2.2.2.2.2.1 = []) ∨
     (200 ≤ q.2 ∧ Cond.instanceMethod M2.2.1 ∈ gm_U ∧ M2.2.1.name = "<init>" ∧ gm_pd M2.2.1 = some (q.2 - 200) ∧ M2.2.2.2.2.1 = none ∧ M2.2.2.2.2.2.2.1 = [])))
section GM
variable {p : Program} {l : Launch} {e : Env} {R : Room} {s : State} {m : MethodId} {args : Array Value} {below : List Frame} {meth : Method} {c : Code} {Q : State → Prop} {dC : Nat → ClassId} {dI : Nat → Nat → Nat} {cy : Nat → ClassId} {A : Nat → Prop} {ad0 : Nat → Nat} {n0 nL : Nat}
variable {pc n : Nat} {ls : pL} {st : List Value} {h : pH} {cl sl : Nat} {cc : ByteArray}
theorem gm_free (hA : ∀ q, s.heap.size ≤ q → A q) {ad : Nat → Nat} {H : Heap} {locs : List Loc} (hD : va_D A (gm_W cy ad 0 h)) (hS : va_S A s.heap H locs) : ∀ q, va_A (gm_W cy ad 0 h) H.size q → A q :=
  va_free hD hS hA (List.range (gm_W cy ad 0 h).length) (by
    apply List.ext_getElem?
    intro i
    simp only [List.getElem?_map]
    by_cases hi : i < (gm_W cy ad 0 h).length
    · simp [List.getElem?_range hi, hi]
    · simp only [Nat.not_lt] at hi
      rw [List.getElem?_eq_none (by simpa using hi), List.getElem?_eq_none hi]
      rfl)
theorem gm_pre (hK : va_K (dC, dI) vwCl (gm_tys cy) s) (hA : ∀ q, s.heap.size ≤ q → A q) (hEx : gm_Ex A s) {ad : Nat → Nat} {H : Heap} {locs : List Loc} {av : List Value} (hP : va_P (dC, dI) vwCl (gm_W cy ad 0 h) H) (hD : va_D A (gm_W cy ad 0 h)) (hS : va_S A s.heap H locs) :
    ∀ U : State, U.heap = H → s.WarmedH U.vm → gm_Pc dC dI cy ad h av H.size (av.map (gm_v ad)).toArray U :=
  fun U hU hW => ⟨rfl, by rw [hU], by rw [hU]; exact hP, va_K.moved hW.alike hK, hD.weaken (fun _ _ _ _ => trivial), hEx.next hS hW hU (gm_free hA hD hS)⟩
theorem gm_ws_cons (M : pM) (hn : M.2.2.2.2.2.2.1 = []) : gm_ws M = Cond.code M.2.1 M.2.2.1 M.2.2.2.1 M.2.2.2.2.1 :: gm_U := by
  unfold gm_ws gm_cw
  rw [hn]
theorem gm_ws_consW (M : pM) {q : Nat × Nat × Nat × Nat} {r : List (Nat × Nat × Nat × Nat)} (hn : M.2.2.2.2.2.2.1 = q :: r) : gm_ws M = Cond.codeWith M.2.1 M.2.2.1 M.2.2.2.1 M.2.2.2.2.1 (q :: r) :: gm_U := by
  unfold gm_ws gm_cw
  rw [hn]
theorem gm_ws_in {M : pM} (hM : gm_Mok M) : ∀ w ∈ gm_ws M, w ∈ gm_U := fun w hw => (List.mem_cons.mp hw).elim (fun z => z ▸ hM.1) id
theorem gm_s_static {own : String} {k : Nat} {q : Nat × Nat} {M2 : pM} {d : Nat} {z : List Value × List Value} {v : Option Value} {h1 : pH} {c1 s1 : Nat} (hx : p.tables.exec = Jvm.exec) (hb : c.code = cc) (hml : c.maxLocals = nL) (hown : s.vm.findClass own = some m.cls) (hts : ∀ w ∈ gm_U, w.before args s = true) (hK : va_K (dC, dI) vwCl (gm_tys cy) s) (hA : ∀ q, s.heap.size ≤ q → A q) (hEx : gm_Ex A s) (hR : d + 13 ≤ R.frames ∧ 60 * d + 210 ≤ R.locals)
    (hM : gm_Mok M2) (hl : Cond.methodLink own k M2.2.1 ∈ gm_U) (hstt : Cond.static M2.2.1 ∈ gm_U) (hpd : gm_pd M2.2.1 = some q.2)
    (hMet : gm_Met1 l d M2 z.1 h v h1 c1 s1) (hlen : h1.length = h.length) (hd : decode cc pc = .ok (.invokestatic k, 3)) (hpop : gm_pop q.2 [] st = some z) (hsum : Nat.ble (gm_sum z.2) 8 = true) (hG : gm_G p l e R s m args below meth c Q dC dI cy A ad0 n0 nL (pc + 3) ls (gm_vl v z.2) h1 (cl + c1) (sl + s1)) : gm_G p l e R s m args below meth c Q dC dI cy A ad0 n0 nL pc ls st h cl sl := by
  have hbd := hG.1
  obtain ⟨as, e1, e2, e3⟩ := gm_pop_of hpop
  rw [List.append_nil] at e1
  refine ⟨⟨by omega, by omega⟩, fun ad H locs lsA hag hP hD hS hL => ?_⟩
  have hpre := gm_pre (av := z.1) hK hA hEx hP hD hS
  have hin : ∀ w ∈ va_wsS own k M2.2.1 (gm_ws M2), w ∈ gm_U := by
    intro w hw
    unfold va_wsS at hw
    rcases List.mem_append.mp hw with h9 | h9
    · simp only [List.mem_cons, List.not_mem_nil, or_false] at h9
      rcases h9 with rfl | rfl | rfl
      · exact hl
      · exact hstt
      · exact hM.2.2.2.2.2.1
    · exact gm_ws_in hM w h9
  have hstk : st.map (gm_v ad) = (z.1.map (gm_v ad)).reverse ++ z.2.map (gm_v ad) := by rw [e3, e1]; simp
  have hnn : (z.1.map (gm_v ad)).length = q.2 := by rw [List.length_map, e1, e2]
  have hrm : (gm_rm d c1 s1).frames + 1 ≤ R.frames ∧ 8 + (M2.2.2.2.1 + 11) + (gm_rm d c1 s1).locals ≤ R.locals := by
    have := hM.2.2.2.2.1
    exact ⟨by show d + 12 + 1 ≤ R.frames; omega, by show 8 + (M2.2.2.2.1 + 11) + (60 * d + 150) ≤ R.locals; omega⟩
  have hroom : ((z.2.map (gm_v ad)).map fun v => v.category).sum ≤ 8 := by rw [gm_v_sum]; exact Nat.le_of_ble_eq_true hsum
  refine gm_after (rest := z.2) (v := v) (h1 := h1) (c1 := c1) (s1 := s1) (aA := (z.1.map (gm_v ad)).toArray) ?_ hA hag hD hS hL hG (Or.inl hlen)
  cases hh : M2.2.2.2.2.2.2.1 with
  | nil =>
    exact va_runS (As := z.1.map (gm_v ad)) (rest := z.2.map (gm_v ad)) ⟨hx, hb, hml, hown, hts⟩ (hMet dC dI cy ad H.size) (va_cwS q.2 hts (gm_U_good hin) (gm_ws_cons M2 hh) rfl rfl ⟨hM.2.2.1, hM.2.2.2.1, hpd⟩ hrm) ⟨gm_Pc_blind, hpre⟩ rfl hnn hL.1 hstk (lv_room hroom) hd hbd
  | cons a r =>
    exact vx_runSW (As := z.1.map (gm_v ad)) (rest := z.2.map (gm_v ad)) ⟨hx, hb, hml, hown, hts⟩ (hMet dC dI cy ad H.size) (vx_cwSW q.2 hts (gm_U_good hin) (gm_ws_consW M2 hh) rfl rfl ⟨hM.2.2.1, hM.2.2.2.1, hpd⟩ hrm) ⟨gm_Pc_blind, hpre⟩ rfl hnn hL.1 hstk (lv_room hroom) hd hbd
theorem gm_s_staticN {own : String} {k : Nat} {q : Nat × Nat} {M2 : pM} {d : Nat} {z : List Value × List Value} {v : Option Value} {h1 : pH} {c1 s1 : Nat} (hx : p.tables.exec = Jvm.exec) (hb : c.code = cc) (hml : c.maxLocals = nL) (hown : s.vm.findClass own = some m.cls) (hts : ∀ w ∈ gm_U, w.before args s = true) (hK : va_K (dC, dI) vwCl (gm_tys cy) s) (hA : ∀ q, s.heap.size ≤ q → A q) (hEx : gm_Ex A s) (hR : d + 13 ≤ R.frames ∧ 60 * d + 210 ≤ R.locals)
    (hM : gm_Mok M2) (hl : (own, k, M2.2.1) ∈ gm_nests) (hstt : Cond.static M2.2.1 ∈ gm_U) (hpd : gm_pd M2.2.1 = some (q.2 - 50)) (hh : M2.2.2.2.2.2.2.1 = [])
    (hMet : gm_Met1 l d M2 z.1 h v h1 c1 s1) (hlen : h1.length = h.length) (hd : decode cc pc = .ok (.invokestatic k, 3)) (hpop : gm_pop (q.2 - 50) [] st = some z) (hsum : Nat.ble (gm_sum z.2) 8 = true) (hG : gm_G p l e R s m args below meth c Q dC dI cy A ad0 n0 nL (pc + 3) ls (gm_vl v z.2) h1 (cl + c1) (sl + s1)) : gm_G p l e R s m args below meth c Q dC dI cy A ad0 n0 nL pc ls st h cl sl := by
  have hbd := hG.1
  obtain ⟨as, e1, e2, e3⟩ := gm_pop_of hpop
  rw [List.append_nil] at e1
  refine ⟨⟨by omega, by omega⟩, fun ad H locs lsA hag hP hD hS hL => ?_⟩
  have hpre := gm_pre (av := z.1) hK hA hEx hP hD hS
  have hstk : st.map (gm_v ad) = (z.1.map (gm_v ad)).reverse ++ z.2.map (gm_v ad) := by rw [e3, e1]; simp
  have hnn : (z.1.map (gm_v ad)).length = q.2 - 50 := by rw [List.length_map, e1, e2]
  have hrm : (gm_rm d c1 s1).frames + 1 ≤ R.frames ∧ 8 + (M2.2.2.2.1 + 11) + (gm_rm d c1 s1).locals ≤ R.locals := by
    have := hM.2.2.2.2.1
    exact ⟨by show d + 12 + 1 ≤ R.frames; omega, by show 8 + (M2.2.2.2.1 + 11) + (60 * d + 150) ≤ R.locals; omega⟩
  have hroom : ((z.2.map (gm_v ad)).map fun v => v.category).sum ≤ 8 := by rw [gm_v_sum]; exact Nat.le_of_ble_eq_true hsum
  refine gm_after (rest := z.2) (v := v) (h1 := h1) (c1 := c1) (s1 := s1) (aA := (z.1.map (gm_v ad)).toArray) ?_ hA hag hD hS hL hG (Or.inl hlen)
  exact va_runSN (As := z.1.map (gm_v ad)) (rest := z.2.map (gm_v ad)) ⟨hx, hb, hml, hown, hts⟩ (hMet dC dI cy ad H.size) ⟨va_cnB (q.2 - 50) hts (gm_U_good (gm_ws_in hM)) (gm_ws_cons M2 hh) rfl rfl (hEx.2.2.2.2.2 _ hl) (hts _ hM.2.2.2.2.2.1) ⟨hM.2.2.1, hM.2.2.2.1, hpd⟩ hrm, hts _ hstt, trivial⟩ ⟨gm_Pc_blind, hpre⟩ rfl hnn hL.1 hstk (lv_room hroom) hd hbd
theorem gm_s_staticX {own : String} {k : Nat} {q : Nat × Nat} {M2 : pM} {d : Nat} {z : List Value × List Value} {E : String} {h1 : pH} {c1 s1 : Nat} (hx : p.tables.exec = Jvm.exec) (hb : c.code = cc) (hml : c.maxLocals = nL) (hown : s.vm.findClass own = some m.cls) (hts : ∀ w ∈ gm_U, w.before args s = true) (hK : va_K (dC, dI) vwCl (gm_tys cy) s) (hA : ∀ q, s.heap.size ≤ q → A q) (hEx : gm_Ex A s) (hR : d + 13 ≤ R.frames ∧ 60 * d + 210 ≤ R.locals)
    (hM : gm_Mok M2) (hl : Cond.methodLink own k M2.2.1 ∈ gm_U) (hstt : Cond.static M2.2.1 ∈ gm_U) (hpd : gm_pd M2.2.1 = some q.2) (hh : M2.2.2.2.2.2.2.1 = [])
    (hMet : gm_Met2 l d M2 z.1 h E h1 c1 s1) (hlen : h1.length = h.length) (hd : decode cc pc = .ok (.invokestatic k, 3)) (hpop : gm_pop q.2 [] st = some z) (hsum : Nat.ble (gm_sum z.2) 8 = true) (hG : gm_GX p l e R s m args below meth c Q dC dI cy A ad0 n0 nL pc ls E h1 (cl + c1) (sl + s1)) : gm_G p l e R s m args below meth c Q dC dI cy A ad0 n0 nL pc ls st h cl sl := by
  have hbd := hG.1
  obtain ⟨as, e1, e2, e3⟩ := gm_pop_of hpop
  rw [List.append_nil] at e1
  refine ⟨⟨by omega, by omega⟩, fun ad H locs lsA hag hP hD hS hL => ?_⟩
  have hpre := gm_pre (av := z.1) hK hA hEx hP hD hS
  have hin : ∀ w ∈ va_wsS own k M2.2.1 (gm_ws M2), w ∈ gm_U := by
    intro w hw
    unfold va_wsS at hw
    rcases List.mem_append.mp hw with h9 | h9
    · simp only [List.mem_cons, List.not_mem_nil, or_false] at h9
      rcases h9 with rfl | rfl | rfl
      · exact hl
      · exact hstt
      · exact hM.2.2.2.2.2.1
    · exact gm_ws_in hM w h9
  have hstk : st.map (gm_v ad) = (z.1.map (gm_v ad)).reverse ++ z.2.map (gm_v ad) := by rw [e3, e1]; simp
  have hnn : (z.1.map (gm_v ad)).length = q.2 := by rw [List.length_map, e1, e2]
  have hrm : (gm_rm d c1 s1).frames + 1 ≤ R.frames ∧ 8 + (M2.2.2.2.1 + 11) + (gm_rm d c1 s1).locals ≤ R.locals := by
    have := hM.2.2.2.2.1
    exact ⟨by show d + 12 + 1 ≤ R.frames; omega, by show 8 + (M2.2.2.2.1 + 11) + (60 * d + 150) ≤ R.locals; omega⟩
  have hroom : ((z.2.map (gm_v ad)).map fun v => v.category).sum ≤ 8 := by rw [gm_v_sum]; exact Nat.le_of_ble_eq_true hsum
  refine gm_afterX (rest := z.2.map (gm_v ad)) (E := E) (h1 := h1) (c1 := c1) (s1 := s1) (aA := (z.1.map (gm_v ad)).toArray) ?_ hA hlen hag hD hS hL hG
  exact vx_runS (As := z.1.map (gm_v ad)) (rest := z.2.map (gm_v ad)) ⟨hx, hb, hml, hown, hts⟩ (hMet dC dI cy ad H.size) (va_cwS q.2 hts (gm_U_good hin) (gm_ws_cons M2 hh) rfl rfl ⟨hM.2.2.1, hM.2.2.2.1, hpd⟩ hrm) ⟨gm_Pc_blind, hpre⟩ rfl hnn hL.1 hstk (lv_room hroom) hd hbd

theorem gm_s_virtual {own : String} {k ci a : Nat} {q : Nat × Nat} {M2 : pM} {d : Nat} {z : List Value × List Value} {r : List Value} {fs : List Value} {rc : vw_C} {v : Option Value} {h1 : pH} {c1 s1 : Nat} (hx : p.tables.exec = Jvm.exec) (hb : c.code = cc) (hml : c.maxLocals = nL) (hown : s.vm.findClass own = some m.cls) (hts : ∀ w ∈ gm_U, w.before args s = true) (hK : va_K (dC, dI) vwCl (gm_tys cy) s) (hA : ∀ q, s.heap.size ≤ q → A q) (hEx : gm_Ex A s) (hR : d + 13 ≤ R.frames ∧ 60 * d + 210 ≤ R.locals)
    (hM : gm_Mok M2) (hl : Cond.methodLink own k M2.2.1 ∈ gm_U) (hins : Cond.instanceMethod M2.2.1 ∈ gm_U) (hsel : Cond.selects M2.2.1.cls M2.2.1 M2.2.1 ∈ gm_U) (hpd : gm_pd M2.2.1 = some (q.2 - 100)) (hh : M2.2.2.2.2.2.2.1 = []) (hrc : vwCl[ci]? = some rc) (hrn : rc.1 = M2.2.1.cls) (hcell : gm_nth h a = some (.inr (ci, fs)))
    (hMet : gm_Met1 l d M2 (.ref a :: z.1) h v h1 c1 s1) (hlen : h1.length = h.length) (hd : decode cc pc = .ok (.invokevirtual k, 3)) (hpop : gm_pop (q.2 - 100) [] st = some z) (hz : z.2 = .ref a :: r) (hsum : Nat.ble (gm_sum r) 8 = true) (hG : gm_G p l e R s m args below meth c Q dC dI cy A ad0 n0 nL (pc + 3) ls (gm_vl v r) h1 (cl + c1) (sl + s1)) : gm_G p l e R s m args below meth c Q dC dI cy A ad0 n0 nL pc ls st h cl sl := by
  have hbd := hG.1
  obtain ⟨as, e1, e2, e3⟩ := gm_pop_of hpop
  rw [List.append_nil] at e1
  refine ⟨⟨by omega, by omega⟩, fun ad H locs lsA hag hP hD hS hL => ?_⟩
  have hpre := gm_pre (av := .ref a :: z.1) hK hA hEx hP hD hS
  have hin : ∀ w ∈ wsV own k M2.2.1.cls M2.2.1 (gm_ws M2), w ∈ gm_U := by
    intro w hw
    unfold wsV at hw
    rcases List.mem_append.mp hw with h9 | h9
    · simp only [List.mem_cons, List.not_mem_nil, or_false] at h9
      rcases h9 with rfl | rfl | rfl | rfl
      · exact hl
      · exact hins
      · exact hsel
      · exact hM.2.2.2.2.2.1
    · exact gm_ws_in hM w h9
  have hstk : st.map (gm_v ad) = (z.1.map (gm_v ad)).reverse ++ .ref (ad a) :: r.map (gm_v ad) := by
    rw [e3, e1, hz]
    simp [gm_v]
  have hnn : (z.1.map (gm_v ad)).length = q.2 - 100 := by rw [List.length_map, e1, e2]
  have hrm : (gm_rm d c1 s1).frames + 1 ≤ R.frames ∧ 8 + (M2.2.2.2.1 + 11) + (gm_rm d c1 s1).locals ≤ R.locals := by
    have := hM.2.2.2.2.1
    exact ⟨by show d + 12 + 1 ≤ R.frames; omega, by show 8 + (M2.2.2.2.1 + 11) + (60 * d + 150) ≤ R.locals; omega⟩
  have hroom : ((r.map (gm_v ad)).map fun v => v.category).sum ≤ 8 := by rw [gm_v_sum]; exact Nat.le_of_ble_eq_true hsum
  have hrecv : ∃ cellB : Cell, H[ad a]? = some cellB ∧ cellB.vm.isStatics = false ∧ s.vm.findClass M2.2.1.cls = some cellB.cls := by
    rw [← hrn]
    exact va_recv hK hP hrc (gm_W_at hcell)
  refine gm_after (rest := r) (v := v) (h1 := h1) (c1 := c1) (s1 := s1) (aA := ((Value.ref a :: z.1).map (gm_v ad)).toArray) ?_ hA hag hD hS hL hG (Or.inl hlen)
  exact va_runV (As := z.1.map (gm_v ad)) (rest := r.map (gm_v ad)) (b := ad a) (C := M2.2.1.cls) ⟨hx, hb, hml, hown, hts⟩ (hMet dC dI cy ad H.size) (cwV (q.2 - 100) hts (gm_U_good hin) (gm_ws_cons M2 hh) rfl rfl ⟨rfl, hM.2.2.1, hM.2.2.2.1, hpd⟩ hrm) ⟨gm_Pc_blind, hrecv, hpre⟩ rfl hnn hL.1 hstk (lv_room hroom) hd hbd

theorem gm_s_virtualX {own : String} {k ci a : Nat} {q : Nat × Nat} {M2 : pM} {d : Nat} {z : List Value × List Value} {r : List Value} {fs : List Value} {rc : vw_C} {E : String} {h1 : pH} {c1 s1 : Nat} (hx : p.tables.exec = Jvm.exec) (hb : c.code = cc) (hml : c.maxLocals = nL) (hown : s.vm.findClass own = some m.cls) (hts : ∀ w ∈ gm_U, w.before args s = true) (hK : va_K (dC, dI) vwCl (gm_tys cy) s) (hA : ∀ q, s.heap.size ≤ q → A q) (hEx : gm_Ex A s) (hR : d + 13 ≤ R.frames ∧ 60 * d + 210 ≤ R.locals)
    (hM : gm_Mok M2) (hl : Cond.methodLink own k M2.2.1 ∈ gm_U) (hins : Cond.instanceMethod M2.2.1 ∈ gm_U) (hsel : Cond.selects M2.2.1.cls M2.2.1 M2.2.1 ∈ gm_U) (hpd : gm_pd M2.2.1 = some (q.2 - 100)) (hh : M2.2.2.2.2.2.2.1 = []) (hrc : vwCl[ci]? = some rc) (hrn : rc.1 = M2.2.1.cls) (hcell : gm_nth h a = some (.inr (ci, fs)))
    (hMet : gm_Met2 l d M2 (.ref a :: z.1) h E h1 c1 s1) (hlen : h1.length = h.length) (hd : decode cc pc = .ok (.invokevirtual k, 3)) (hpop : gm_pop (q.2 - 100) [] st = some z) (hz : z.2 = .ref a :: r) (hsum : Nat.ble (gm_sum r) 8 = true) (hG : gm_GX p l e R s m args below meth c Q dC dI cy A ad0 n0 nL pc ls E h1 (cl + c1) (sl + s1)) : gm_G p l e R s m args below meth c Q dC dI cy A ad0 n0 nL pc ls st h cl sl := by
  have hbd := hG.1
  obtain ⟨as, e1, e2, e3⟩ := gm_pop_of hpop
  rw [List.append_nil] at e1
  refine ⟨⟨by omega, by omega⟩, fun ad H locs lsA hag hP hD hS hL => ?_⟩
  have hpre := gm_pre (av := .ref a :: z.1) hK hA hEx hP hD hS
  have hin : ∀ w ∈ wsV own k M2.2.1.cls M2.2.1 (gm_ws M2), w ∈ gm_U := by
    intro w hw
    unfold wsV at hw
    rcases List.mem_append.mp hw with h9 | h9
    · simp only [List.mem_cons, List.not_mem_nil, or_false] at h9
      rcases h9 with rfl | rfl | rfl | rfl
      · exact hl
      · exact hins
      · exact hsel
      · exact hM.2.2.2.2.2.1
    · exact gm_ws_in hM w h9
  have hstk : st.map (gm_v ad) = (z.1.map (gm_v ad)).reverse ++ .ref (ad a) :: r.map (gm_v ad) := by
    rw [e3, e1, hz]
    simp [gm_v]
  have hnn : (z.1.map (gm_v ad)).length = q.2 - 100 := by rw [List.length_map, e1, e2]
  have hrm : (gm_rm d c1 s1).frames + 1 ≤ R.frames ∧ 8 + (M2.2.2.2.1 + 11) + (gm_rm d c1 s1).locals ≤ R.locals := by
    have := hM.2.2.2.2.1
    exact ⟨by show d + 12 + 1 ≤ R.frames; omega, by show 8 + (M2.2.2.2.1 + 11) + (60 * d + 150) ≤ R.locals; omega⟩
  have hroom : ((r.map (gm_v ad)).map fun v => v.category).sum ≤ 8 := by rw [gm_v_sum]; exact Nat.le_of_ble_eq_true hsum
  have hrecv : ∃ cellB : Cell, H[ad a]? = some cellB ∧ cellB.vm.isStatics = false ∧ s.vm.findClass M2.2.1.cls = some cellB.cls := by
    rw [← hrn]
    exact va_recv hK hP hrc (gm_W_at hcell)
  refine gm_afterX (rest := r.map (gm_v ad)) (E := E) (h1 := h1) (c1 := c1) (s1 := s1) (aA := ((Value.ref a :: z.1).map (gm_v ad)).toArray) ?_ hA hlen hag hD hS hL hG
  exact vx_runV (As := z.1.map (gm_v ad)) (rest := r.map (gm_v ad)) (b := ad a) (C := M2.2.1.cls) ⟨hx, hb, hml, hown, hts⟩ (hMet dC dI cy ad H.size) (cwV (q.2 - 100) hts (gm_U_good hin) (gm_ws_cons M2 hh) rfl rfl ⟨rfl, hM.2.2.1, hM.2.2.2.1, hpd⟩ hrm) ⟨gm_Pc_blind, hrecv, hpre⟩ rfl hnn hL.1 hstk (lv_room hroom) hd hbd

theorem gm_s_init {own : String} {k a : Nat} {q : Nat × Nat} {M2 : pM} {d : Nat} {z : List Value × List Value} {r : List Value} {h1 : pH} {c1 s1 : Nat} (hx : p.tables.exec = Jvm.exec) (hb : c.code = cc) (hml : c.maxLocals = nL) (hown : s.vm.findClass own = some m.cls) (hts : ∀ w ∈ gm_U, w.before args s = true) (hK : va_K (dC, dI) vwCl (gm_tys cy) s) (hA : ∀ q, s.heap.size ≤ q → A q) (hEx : gm_Ex A s) (hR : d + 13 ≤ R.frames ∧ 60 * d + 210 ≤ R.locals)
    (hM : gm_Mok M2) (hl : Cond.methodLink own k M2.2.1 ∈ gm_U ∨ (own, k, M2.2.1) ∈ gm_nests) (hins : Cond.instanceMethod M2.2.1 ∈ gm_U) (hname : M2.2.1.name = "<init>") (hpd : gm_pd M2.2.1 = some (q.2 - 200)) (hret : M2.2.2.2.2.1 = none) (hh : M2.2.2.2.2.2.2.1 = [])
    (hMet : gm_Met1 l d M2 (.ref a :: z.1) h none h1 c1 s1) (hd : decode cc pc = .ok (.invokespecial k, 3)) (hpop : gm_pop (q.2 - 200) [] st = some z) (hz : z.2 = .ref a :: r) (hsum : Nat.ble (gm_sum r) 6 = true) (hfr : (gm_frs h.length r && gm_frl h.length ls) = true) (hG : gm_G p l e R s m args below meth c Q dC dI cy A ad0 n0 nL (pc + 3) ls r h1 (cl + c1) (sl + s1)) : gm_G p l e R s m args below meth c Q dC dI cy A ad0 n0 nL pc ls st h cl sl := by
  have hbd := hG.1
  obtain ⟨as, e1, e2, e3⟩ := gm_pop_of hpop
  rw [List.append_nil] at e1
  refine ⟨⟨by omega, by omega⟩, fun ad H locs lsA hag hP hD hS hL => ?_⟩
  have hpre := gm_pre (av := .ref a :: z.1) hK hA hEx hP hD hS
  have hstk : st.map (gm_v ad) = (z.1.map (gm_v ad)).reverse ++ .ref (ad a) :: r.map (gm_v ad) := by
    rw [e3, e1, hz]
    simp [gm_v]
  have hnn : (z.1.map (gm_v ad)).length = q.2 - 200 := by rw [List.length_map, e1, e2]
  have hrm : (gm_rm d c1 s1).frames + 1 ≤ R.frames ∧ 8 + (M2.2.2.2.1 + 11) + (gm_rm d c1 s1).locals ≤ R.locals := by
    have := hM.2.2.2.2.1
    exact ⟨by show d + 12 + 1 ≤ R.frames; omega, by show 8 + (M2.2.2.2.1 + 11) + (60 * d + 150) ≤ R.locals; omega⟩
  have hroom : ((r.map (gm_v ad)).map fun v => v.category).sum ≤ 8 := by
    rw [gm_v_sum]
    have := Nat.le_of_ble_eq_true hsum
    omega
  refine gm_after (rest := r) (v := none) (h1 := h1) (c1 := c1) (s1 := s1) (aA := ((Value.ref a :: z.1).map (gm_v ad)).toArray) ?_ hA hag hD hS hL hG (Or.inr hfr)
  have hw : gm_ws M2 = Cond.code M2.2.1 M2.2.2.1 M2.2.2.2.1 none :: gm_U := by rw [gm_ws_cons M2 hh, hret]
  rcases hl with hl | hl
  · exact va_runI (As := z.1.map (gm_v ad)) (rest := r.map (gm_v ad)) (b := ad a) ⟨hx, hb, hml, hown, hts⟩ (hMet dC dI cy ad H.size) (cwI (q.2 - 200) hts (gm_U_good (gm_ws_in hM)) hw rfl rfl (hts _ hM.2.2.2.2.2.1) (hts _ hl) (hts _ hins) hname ⟨hM.2.2.1, hM.2.2.2.1, hpd⟩ hrm) ⟨gm_Pc_blind, hpre⟩ rfl hnn hL.1 hstk (lv_room hroom) hd hbd
  · exact va_runIN (As := z.1.map (gm_v ad)) (rest := r.map (gm_v ad)) (b := ad a) ⟨hx, hb, hml, hown, hts⟩ (hMet dC dI cy ad H.size) ⟨va_cnB (q.2 - 200) hts (gm_U_good (gm_ws_in hM)) hw rfl rfl (hEx.2.2.2.2.2 _ hl) (hts _ hM.2.2.2.2.2.1) ⟨hM.2.2.1, hM.2.2.2.1, hpd⟩ hrm, hname, hts _ hins⟩ ⟨gm_Pc_blind, hpre⟩ rfl hnn hL.1 hstk (lv_room hroom) hd hbd
theorem gm_s_obj {own : String} {k a : Nat} {r : List Value} (hx : p.tables.exec = Jvm.exec) (hb : c.code = cc) (hml : c.maxLocals = nL) (hown : s.vm.findClass own = some m.cls) (hts : ∀ w ∈ gm_U, w.before args s = true) (hR : 1 ≤ R.frames ∧ 60 ≤ R.locals) (hl : Cond.methodLink own k objectInit ∈ gm_U) (hins : Cond.instanceMethod objectInit ∈ gm_U) (hcode : Cond.code objectInit ⟨#[0xb1]⟩ 1 none ∈ gm_U)
    (hd : decode cc pc = .ok (.invokespecial k, 3)) (hsum : Nat.ble (gm_sum r) 6 = true) (hG : gm_G p l e R s m args below meth c Q dC dI cy A ad0 n0 nL (pc + 3) ls r h cl sl) : gm_G p l e R s m args below meth c Q dC dI cy A ad0 n0 nL pc ls (.ref a :: r) h cl sl := by
  refine gm_lift hG fun ad H locs lsA hag hP hD hS hL kk => ?_
  refine W.objInit hx hb hown (hts _ hl) (hts _ hins) (hts _ hcode) rfl (by rw [hml]; exact hL.1) (a := ad a) (rest := r.map (gm_v ad)) rfl hd hR.1 ?_ (kk lsA hL)
  have h1 : ((r.map (gm_v ad)).map fun v => v.category).sum ≤ 6 := by
    rw [gm_v_sum]
    exact Nat.le_of_ble_eq_true hsum
  have h2 : 2 * (F0 m pc lsA (.ref (ad a) :: r.map (gm_v ad))).monitorRoom + ((r.map (gm_v ad)).map fun v => v.category).sum ≤ 8 := lv_room (by omega)
  show 2 * (F0 m pc lsA (.ref (ad a) :: r.map (gm_v ad))).monitorRoom + ((r.map (gm_v ad)).map fun v => v.category).sum + 12 ≤ R.locals
  omega
end GM
