/-! SOUNDNESS, 7: by induction on the depth of calls -/
section GM
variable {l : Launch}
theorem gm_hts {M : pM} {y : MethodName} {rm : Room} {cc : ByteArray} {maxL : Nat} {ret : Option FieldType} {p : Program} {e : Env} {s : State} {m : MethodId} {args : Array Value} {below : List Frame} {meth : Method} {c : Code} {s₁ : State} (B : BodyLoose p l y (headSpec (gm_ws M) rm) cc maxL ret e s m args below meth c s₁) : ∀ w ∈ gm_ws M, w.before args s = true := atoms_spec (ws := gm_ws M) B.pre
/-- the walk of a body that returns -/
theorem gm_body1 {M : pM} {MT : Nat → Option pM} {d : Nat} {av : List Value} {h h1 : pH} {v : Option Value} {c1 s1 : Nat} {p : Program} {e : Env} {s : State} {m : MethodId} {args : Array Value} {below : List Frame} {meth : Method} {c : Code} {dC : Nat → ClassId} {dI : Nat → Nat → Nat} {cy : Nat → ClassId} {ad : Nat → Nat} {sz : Nat} {R : Room}
    (hall : gm_Aok MT) (hRr : R = gm_rm (d + 1) c1 s1)
    (hx : p.tables.exec = Jvm.exec) (hb : c.code = M.2.2.1) (hml : c.maxLocals = M.2.2.2.1) (hown : s.vm.findClass M.2.1.cls = some m.cls) (hts : ∀ w ∈ gm_U, w.before args s = true) (hrt : meth.sig.returnType = M.2.2.2.2.1) (hlocks : meth.locks = false) (hinit : M.2.1.name = "<init>" → meth.name = "<init>")
    (htab : c.exceptionTable.toList = tableOf M.2.2.2.2.2.2.1)
    (hpc : gm_Pc dC dI cy ad h av sz args s) {mid : Nat} (hMT : MT mid = some M)
    (hS1 : ∀ mid M2 av h v h1 c1 s1, MT mid = some M2 → gm_Sp MT d mid av h (.inl v) h1 c1 s1 → gm_Met1 l d M2 av h v h1 c1 s1 ∧ (M2.2.1.name = "<init>" ∨ h1.length = h.length))
    (hS2 : ∀ mid M2 av h E h1 c1 s1, MT mid = some M2 → gm_Sp MT d mid av h (.inr E) h1 c1 s1 → gm_Met2 l d M2 av h E h1 c1 s1 ∧ h1.length = h.length ∧ M2.2.2.2.2.2.2.1 = [])
    (hsd : gm_sd M av h (.inl v) h1) (hrun : ∀ (G : pG) (X : pX), gm_cl M gm_tyf none (gm_Sp MT d) G X → X (.inl v) h1 c1 s1 → G 0 (gm_args M.2.2.2.1 av) [] h 0 0) :
    W p l e R s m args below meth c s.heap [] 0 0 (MQ below (gm_Q dC dI cy ad h h1 v sz) args s c1 s1 (va_A (gm_W cy ad 0 h) sz)) (entryFrame m args M.2.2.2.1) := by
  obtain ⟨hM, hC, hKK, hT⟩ := hall.2.2 mid M hMT
  obtain ⟨rfl, hsz, hP, hK, hD0, hEx⟩ := hpc
  subst hsz
  subst hRr
  have hD : va_D (va_A (gm_W cy ad 0 h) s.heap.size) (gm_W cy ad 0 h) := hD0.self
  have hA : ∀ q : Nat, s.heap.size ≤ q → va_A (gm_W cy ad 0 h) s.heap.size q := fun q h => Or.inr h
  have hS : va_S (va_A (gm_W cy ad 0 h) s.heap.size) s.heap s.heap [] := va_S.rf
  have hown2 : s.vm.findClass M.1 = some m.cls := by rw [hM.2.2.2.2.2.2]; exact hown
  let Q := MQ below (gm_Q dC dI cy ad h h1 v s.heap.size) (av.map (gm_v ad)).toArray s c1 s1 (va_A (gm_W cy ad 0 h) s.heap.size)
  let G := gm_G p l e (gm_rm (d + 1) c1 s1) s m (av.map (gm_v ad)).toArray below meth c Q dC dI cy (va_A (gm_W cy ad 0 h) s.heap.size) ad h.length M.2.2.2.1
  let X : pX := fun o9 h9 c9 s9 => o9 = .inl v ∧ h9 = h1 ∧ c9 = c1 ∧ s9 = s1
  have hcl : gm_cl M gm_tyf none (gm_Sp MT d) G X := by
    refine gm_closed (MT := MT) (d := d) hx hb hml hown2 hts hall.1 hK hA hEx ⟨by show d + 13 ≤ d + 1 + 12; omega, by show 60 * d + 210 ≤ 60 * (d + 1) + 150; omega⟩ hC hKK (fun mid M2 h => (hall.2.2 mid M2 h).1) hall.2.1 (fun q hq => by cases hq) hinit hS1 hS2 ?_ ?_ ?_
    · intro pc i len ls st h9 cl sl v9 hasc hrtv hokr hX
      obtain ⟨hv, rfl, rfl, rfl⟩ := hX
      cases hv
      obtain ⟨hd, hlen⟩ := hC.1 pc i len hasc
      refine ⟨⟨Nat.le_refl _, Nat.le_refl _⟩, fun ad2 H locs lsA hag hP2 hD2 hS2 hL => ?_⟩
      have hq : ∀ t : State, t.heap = H → s.WarmedH t.vm → gm_Q dC dI cy ad h h9 v s.heap.size (av.map (gm_v ad)).toArray s (.returned (v.map (gm_v ad2))) t := fun t ht hW => ⟨⟨ad2, hag, rfl, by rw [ht]; exact hP2, hD2⟩, hS2.F ht⟩
      unfold gm_rt at hrtv
      split at hrtv
      · cases hrtv
        have hl := Nat.eq_of_beq_eq_true hlen
        subst hl
        cases hr9 : M.2.2.2.2.1 with
        | none => rw [hr9] at hokr; exact False.elim hokr
        | some ty =>
          rw [hr9] at hokr
          exact W.zret hx hb (hrt.trans hr9) (gm_ok_nf ad2 hokr).1 hq hS2.2.2 hd hlocks
      · cases hrtv
        have hl := Nat.eq_of_beq_eq_true hlen
        subst hl
        cases hr9 : M.2.2.2.2.1 with
        | none => rw [hr9] at hokr; exact False.elim hokr
        | some ty =>
          rw [hr9] at hokr
          have hty : ty = .long := by
            cases ty <;> first | rfl | exact False.elim hokr
          subst hty
          exact W.lret hx hb (hrt.trans hr9) hq hS2.2.2 hd hlocks
      · cases hrtv
        have hl := Nat.eq_of_beq_eq_true hlen
        subst hl
        cases hr9 : M.2.2.2.2.1 with
        | none => rw [hr9] at hokr; exact False.elim hokr
        | some ty =>
          rw [hr9] at hokr
          have hty : ty = .float := by
            cases ty <;> first | rfl | exact False.elim hokr
          subst hty
          exact W.fret hx hb (hrt.trans hr9) hq hS2.2.2 hd hlocks
      · cases hrtv
        have hl := Nat.eq_of_beq_eq_true hlen
        subst hl
        rename_i x9
        cases hr9 : M.2.2.2.2.1 with
        | none => rw [hr9] at hokr; exact False.elim hokr
        | some ty =>
          rw [hr9] at hokr
          refine W.aret (v := .ref (ad2 x9)) hx hb (hrt.trans hr9) ?_ (Or.inr ⟨_, rfl⟩) hq hS2.2.2 hd hlocks
          cases ty <;> first | exact Or.inl ⟨_, rfl⟩ | exact Or.inr ⟨_, rfl⟩ | exact False.elim hokr
      · cases hrtv
        have hl := Nat.eq_of_beq_eq_true hlen
        subst hl
        cases hr9 : M.2.2.2.2.1 with
        | none => exact W.vret hx hb (hrt.trans hr9) hq hS2.2.2 hd hlocks
        | some ty => rw [hr9] at hokr; exact False.elim hokr
      · cases hrtv
    · intro pc k len E ls st h9 cl sl _ _ _ hX
      exact False.elim (by have := hX.1; cases this)
    · intro pc ls E h9 cl sl hthr
      cases ht : gm_hd M.2.2.2.2.2.2.2.2.2.2.2 E pc M.2.2.2.2.2.2.1 with
      | none =>
        unfold gm_thr at hthr
        rw [ht] at hthr
        exact False.elim (by have := hthr.1; cases this)
      | some t => exact gm_catch hx hb hown2 hts hEx hC hT htab ht hthr
  have hG := hrun G X hcl ⟨rfl, rfl, rfl, rfl⟩
  rw [lg_entry_eq]
  have hag0 : gm_ag h.length ad ad h := ⟨Nat.le_refl _, fun _ => rfl, fun _ _ => rfl, rfl⟩
  exact hG.2 ad s.heap [] _ hag0 hP hD hS (gm_entry hsd.2.1 (Nat.le_of_ble_eq_true hsd.2.2.1))
/-- the walk of a body that throws -/
theorem gm_body2 (hl : l.stackTraces = false) {M : pM} {MT : Nat → Option pM} {d : Nat} {av : List Value} {h h1 : pH} {E : String} {c1 s1 : Nat} {p : Program} {e : Env} {s : State} {m : MethodId} {args : Array Value} {below : List Frame} {meth : Method} {c : Code} {dC : Nat → ClassId} {dI : Nat → Nat → Nat} {cy : Nat → ClassId} {ad : Nat → Nat} {sz : Nat} {R : Room}
    (hall : gm_Aok MT) (hRr : R = gm_rm (d + 1) c1 s1)
    (hx : p.tables.exec = Jvm.exec) (hb : c.code = M.2.2.1) (hml : c.maxLocals = M.2.2.2.1) (hown : s.vm.findClass M.2.1.cls = some m.cls) (hts : ∀ w ∈ gm_U, w.before args s = true) (hlocks : meth.locks = false) (hinit : M.2.1.name = "<init>" → meth.name = "<init>")
    (htab : ∀ x ∈ c.exceptionTable.toList, False)
    (hpc : gm_Pc dC dI cy ad h av sz args s) {mid : Nat} (hMT : MT mid = some M)
    (hS1 : ∀ mid M2 av h v h1 c1 s1, MT mid = some M2 → gm_Sp MT d mid av h (.inl v) h1 c1 s1 → gm_Met1 l d M2 av h v h1 c1 s1 ∧ (M2.2.1.name = "<init>" ∨ h1.length = h.length))
    (hS2 : ∀ mid M2 av h E h1 c1 s1, MT mid = some M2 → gm_Sp MT d mid av h (.inr E) h1 c1 s1 → gm_Met2 l d M2 av h E h1 c1 s1 ∧ h1.length = h.length ∧ M2.2.2.2.2.2.2.1 = [])
    (hsd : gm_sd M av h (.inr E) h1) (hrun : ∀ (G : pG) (X : pX), gm_cl M gm_tyf none (gm_Sp MT d) G X → X (.inr E) h1 c1 s1 → G 0 (gm_args M.2.2.2.1 av) [] h 0 0) :
    W p l e R s m args below meth c s.heap [] 0 0 (vx_MQ below (fun _ _ _ _ => False) (gm_XC E dC dI cy ad h h1 sz) args s c1 s1 (va_A (gm_W cy ad 0 h) sz)) (entryFrame m args M.2.2.2.1) := by
  obtain ⟨hM, hC, hKK, hT⟩ := hall.2.2 mid M hMT
  obtain ⟨rfl, hsz, hP, hK, hD0, hEx⟩ := hpc
  subst hsz
  subst hRr
  have hlen : h1.length = h.length := hsd.2.2.2.2.1
  have hhn : M.2.2.2.2.2.2.1 = [] := hsd.2.2.2.1
  have hD : va_D (va_A (gm_W cy ad 0 h) s.heap.size) (gm_W cy ad 0 h) := hD0.self
  have hA : ∀ q : Nat, s.heap.size ≤ q → va_A (gm_W cy ad 0 h) s.heap.size q := fun q h => Or.inr h
  have hS : va_S (va_A (gm_W cy ad 0 h) s.heap.size) s.heap s.heap [] := va_S.rf
  have hown2 : s.vm.findClass M.1 = some m.cls := by rw [hM.2.2.2.2.2.2]; exact hown
  let Q := vx_MQ below (fun _ _ _ _ => False) (gm_XC E dC dI cy ad h h1 s.heap.size) (av.map (gm_v ad)).toArray s c1 s1 (va_A (gm_W cy ad 0 h) s.heap.size)
  let G := gm_G p l e (gm_rm (d + 1) c1 s1) s m (av.map (gm_v ad)).toArray below meth c Q dC dI cy (va_A (gm_W cy ad 0 h) s.heap.size) ad h.length M.2.2.2.1
  let X : pX := fun o9 h9 c9 s9 => o9 = .inr E ∧ h9 = h1 ∧ c9 = c1 ∧ s9 = s1
  have hcl : gm_cl M gm_tyf none (gm_Sp MT d) G X := by
    refine gm_closed (MT := MT) (d := d) hx hb hml hown2 hts hall.1 hK hA hEx ⟨by show d + 13 ≤ d + 1 + 12; omega, by show 60 * d + 210 ≤ 60 * (d + 1) + 150; omega⟩ hC hKK (fun mid M2 h => (hall.2.2 mid M2 h).1) hall.2.1 (fun q hq => by cases hq) hinit hS1 hS2 ?_ ?_ ?_
    · intro pc i len ls st h9 cl sl v9 hasc hrtv hokr hX
      exact False.elim (by have := hX.1; cases this)
    · intro pc k len E9 ls st h9 cl sl hasc hexc hsum hX
      obtain ⟨hE, rfl, hc1, hs1⟩ := hX
      cases hE
      obtain ⟨ic, q, hq, hRX, hEok, d0, d3, hdd⟩ := hT.1 pc k len E hasc hexc
      obtain ⟨g1, g2, g3, g4, g6, ix, rx, x0, x1, x2, x5, g5⟩ := hEok
      obtain ⟨sa, hsa⟩ := hEx.2.2.2.1 q hq
      have hown3 : s.vm.findClass RX6 = some m.cls := by rw [← hRX]; exact hown2
      refine ⟨⟨by show cl ≤ c1; omega, by show sl ≤ s1; omega⟩, fun ad2 H locs lsA hag hP2 hD2 hS2 hL => ?_⟩
      have had : ad2 = ad := hag.2.1 hlen
      subst had
      have hat : ∀ w ∈ gx_at RX6 ic E ix rx gm_names, w.before (av.map (gm_v ad2)).toArray s = true := fun w hw => (Bool.or_eq_true_iff.mp (g5 w hw).2).elim (fun z => hts w (gm_U_in (g5 w hw).1 z)) (fun z => va_Nw.use (gm_isn_tab z) (hEx.2.2.1 w (g5 w hw).1 z))
      have hgood : ∀ w ∈ Cond.classLink RX6 k E :: Cond.initialized E :: gx_at RX6 ic E ix rx gm_names, vx_ot w = true := by
        have hu : ∀ w ∈ gm_U, vx_ot w = true := fun w hw => by
          unfold vx_ot
          rw [(List.mem_filter.mp hw).2, Bool.or_true]
        intro w hw
        rcases List.mem_cons.mp hw with rfl | hw
        · exact hu _ g3
        rcases List.mem_cons.mp hw with rfl | hw
        · exact hu _ g4
        · exact (Bool.or_eq_true_iff.mp (g5 w hw).2).elim (fun z => hu w (gm_U_in (g5 w hw).1 z)) (fun z => by unfold vx_ot; rw [gm_isn_tab z]; rfl)
      have hnames : ∀ n ∈ gm_names, Bundle.fit n = true := by decide +kernel
      have hxc : ∀ t : State, s.vm.Alike t.vm → H.size ≤ t.heap.size → (∀ q : Nat, q < H.size → t.heap[q]? = H[q]?) → gm_XC E dC dI cy ad2 h h9 s.heap.size E s t := by
        intro t _ ht1 ht2
        refine ⟨rfl, hP2.kept (fun k q hk => ht2 q.1 (hP2 k q hk).lt), hD2, Nat.le_trans hS2.1 ht1, fun q h1 h2 => ?_⟩
        rw [ht2 q (Nat.lt_of_lt_of_le h1 hS2.1)]
        exact hS2.2.1 q h1 h2
      have hrl : ((st.map (gm_v ad2)).map fun v => v.category).sum + (13 * (gm_names.length + 1) + 43) ≤ (gm_rm (d + 1) c1 s1).locals := by
        rw [gm_v_sum]
        show gm_sum st + (13 * (2 + 1) + 43) ≤ 60 * (d + 1) + 150
        omega
      have hrf : gm_names.length + 3 < (gm_rm (d + 1) c1 s1).frames := by
        show 2 + 3 < d + 1 + 12
        omega
      have hc1' : cl + 1 = c1 := hc1
      have hs1' : sl + 6 = s1 := hs1
      rcases hdd with ⟨d4, d6, d9⟩ | ⟨d4, d7, d10⟩
      · exact gx_throwS hx hb hl x0 x1 x2 x5 hown3 g2 hnames (hts _ g3) (hts _ g4) hsa hat hgood hEx.1 hEx.2.1 hS2 (by rw [hml]; exact hL.1) d0 d3 d4 d6 d9 (fun x hx => (htab x hx).elim) hrf hrl (by show cl + 1 ≤ c1; omega) (by show sl + 6 ≤ s1; omega) hlocks hxc hS2.2.2 (by omega) (by omega)
      · exact gx_throwSW hx hb hl x0 x1 x2 x5 hown3 g2 hnames (hts _ g3) (hts _ g4) hsa hat hgood hEx.1 hEx.2.1 hS2 (by rw [hml]; exact hL.1) d0 d3 d4 d7 d10 (fun x hx => (htab x hx).elim) hrf hrl (by show cl + 1 ≤ c1; omega) (by show sl + 6 ≤ s1; omega) hlocks hxc hS2.2.2 (by omega) (by omega)
    · intro pc ls E9 h9 cl sl hthr
      unfold gm_thr at hthr
      rw [hhn] at hthr
      simp only [gm_hd] at hthr
      obtain ⟨hE, rfl, rfl, rfl⟩ := hthr
      cases hE
      refine ⟨⟨Nat.le_refl _, Nat.le_refl _⟩, fun ad2 H locs lsA rest q ce hag hP2 hD2 hS2 hL hce hcv hcl => ?_⟩
      have had : ad2 = ad := hag.2.1 hlen
      subst had
      exact vx_out (fun x hx => (htab x hx).elim) hlocks hce hcv hcl (fun t ht _ => ⟨rfl, by rw [ht]; exact hP2, hD2, hS2.F ht⟩) hS2.2.2 (Nat.le_refl _) (Nat.le_refl _)
  have hG := hrun G X hcl ⟨rfl, rfl, rfl, rfl⟩
  rw [lg_entry_eq]
  have hag0 : gm_ag h.length ad ad h := ⟨Nat.le_refl _, fun _ => rfl, fun _ _ => rfl, rfl⟩
  exact hG.2 ad s.heap [] _ hag0 hP hD hS (gm_entry hsd.2.1 (Nat.le_of_ble_eq_true hsd.2.2.1))
theorem gm_sound (hl : l.stackTraces = false) {MT : Nat → Option pM} (hall : gm_Aok MT) : ∀ (d mid : Nat) (M : pM) (av : List Value) (h : pH) (o : pO) (h1 : pH) (c1 s1 : Nat), MT mid = some M → gm_Sp MT d mid av h o h1 c1 s1 → match o with
    | .inl v => gm_Met1 l d M av h v h1 c1 s1 ∧ (M.2.1.name = "<init>" ∨ h1.length = h.length)
    | .inr E => gm_Met2 l d M av h E h1 c1 s1 ∧ h1.length = h.length ∧ M.2.2.2.2.2.2.1 = [] := by
  intro d
  induction d with
  | zero => intro mid M av h o h1 c1 s1 _ hSp; exact False.elim hSp
  | succ d ih =>
    intro mid M av h o h1 c1 s1 hMT hSp
    have hS1 : ∀ mid M2 av h v h1 c1 s1, MT mid = some M2 → gm_Sp MT d mid av h (.inl v) h1 c1 s1 → gm_Met1 l d M2 av h v h1 c1 s1 ∧ (M2.2.1.name = "<init>" ∨ h1.length = h.length) := fun mid M2 av h v h1 c1 s1 g1 g2 => ih mid M2 av h (.inl v) h1 c1 s1 g1 g2
    have hS2 : ∀ mid M2 av h E h1 c1 s1, MT mid = some M2 → gm_Sp MT d mid av h (.inr E) h1 c1 s1 → gm_Met2 l d M2 av h E h1 c1 s1 ∧ h1.length = h.length ∧ M2.2.2.2.2.2.2.1 = [] := fun mid M2 av h E h1 c1 s1 g1 g2 => ih mid M2 av h (.inr E) h1 c1 s1 g1 g2
    obtain ⟨M9, hM9, hsd, hrun⟩ := hSp
    cases Option.some.inj (hM9.symm.trans hMT)
    obtain ⟨hM, hC, hKK, hT⟩ := hall.2.2 mid M hMT
    cases o with
    | inl v =>
      refine ⟨fun dC dI cy ad sz => ?_, hsd.1⟩
      cases hh : M.2.2.2.2.2.2.1 with
      | nil =>
        refine va_MetF (cc := M.2.2.1) (maxL := M.2.2.2.1) (ret := M.2.2.2.2.1) hM.2.1 (gm_ws_cons M hh) ?_
        intro p e s m args below meth c s₁ B hml hpc
        have hts := gm_hts B
        have htab : c.exceptionTable.toList = tableOf M.2.2.2.2.2.2.1 := by
          obtain ⟨meth9, c9, h1, h2, -, -, -, -, h7, -⟩ := Cond.code_spec B.named (hts _ (by rw [gm_ws_cons M hh]; exact List.mem_cons_self))
          cases Option.some.inj (h1.symm.trans B.method)
          cases Option.some.inj (h2.symm.trans (Stand.of_body B).code)
          rw [hh, Array.isEmpty_iff.mp h7]
          rfl
        exact gm_body1 hall rfl B.exec B.bytes hml (findClass_of_methodNamed B.named) (fun w hw => hts w (List.mem_cons_of_mem _ hw)) B.returns B.notSynchronized (fun hn => ((name_of_methodNamed B.named B.method).1).trans hn) htab hpc hMT hS1 hS2 hsd hrun
      | cons a r =>
        refine va_MetW (cc := M.2.2.1) (maxL := M.2.2.2.1) (ret := M.2.2.2.2.1) (hh := a :: r) (hT.2.2 (by rw [hh]; exact fun z => by cases z)) (gm_ws_consW M hh) ?_
        intro p e s m args below meth c s₁ B hml hpc
        have hts := gm_hts B
        have htab : c.exceptionTable.toList = tableOf M.2.2.2.2.2.2.1 := by
          rw [hh]
          exact vx_table (x := M.2.1) B (hts _ (by rw [gm_ws_consW M hh]; exact List.mem_cons_self))
        exact gm_body1 hall rfl B.exec B.bytes hml (findClass_of_methodNamed B.named) (fun w hw => hts w (List.mem_cons_of_mem _ hw)) B.returns B.notSynchronized (fun hn => ((name_of_methodNamed B.named B.method).1).trans hn) htab hpc hMT hS1 hS2 hsd hrun
    | inr E =>
      have hh : M.2.2.2.2.2.2.1 = [] := hsd.2.2.2.1
      refine ⟨fun dC dI cy ad sz => ?_, hsd.2.2.2.2.1, hh⟩
      refine vx_ofW (cc := M.2.2.1) (maxL := M.2.2.2.1) (ret := M.2.2.2.2.1) hsd.2.2.2.2.2 (gm_ws_cons M hh) ?_
      intro p e s m args below meth c s₁ B hml htab hpc
      have hts := gm_hts B
      exact gm_body2 hl hall rfl B.exec B.bytes hml (findClass_of_methodNamed B.named) (fun w hw => hts w (List.mem_cons_of_mem _ hw)) B.notSynchronized (fun hn => ((name_of_methodNamed B.named B.method).1).trans hn) htab hpc hMT hS1 hS2 hsd hrun
end GM
