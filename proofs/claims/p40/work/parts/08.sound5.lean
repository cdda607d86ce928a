/-! SOUNDNESS, 5: an instruction's length and numbers; the machine's predicate goes back along the code -/
def gm_lenok : Instr → Nat → Bool
  | .iconst _, n => Nat.beq n 1
  | .lconst _, n => Nat.beq n 1
  | .fconst _, n => Nat.beq n 1
  | .iload_n _, n => Nat.beq n 1
  | .lload_n _, n => Nat.beq n 1
  | .aload_n _, n => Nat.beq n 1
  | .istore_n _, n => Nat.beq n 1
  | .lstore_n _, n => Nat.beq n 1
  | .astore_n _, n => Nat.beq n 1
  | .iadd, n => Nat.beq n 1
  | .isub, n => Nat.beq n 1
  | .imul, n => Nat.beq n 1
  | .iand, n => Nat.beq n 1
  | .ior, n => Nat.beq n 1
  | .ixor, n => Nat.beq n 1
  | .ineg, n => Nat.beq n 1
  | .idiv, n => Nat.beq n 1
  | .irem, n => Nat.beq n 1
  | .ishl, n => Nat.beq n 1
  | .ishr, n => Nat.beq n 1
  | .iushr, n => Nat.beq n 1
  | .ladd, n => Nat.beq n 1
  | .lsub, n => Nat.beq n 1
  | .lmul, n => Nat.beq n 1
  | .land, n => Nat.beq n 1
  | .lor, n => Nat.beq n 1
  | .lxor, n => Nat.beq n 1
  | .lshl, n => Nat.beq n 1
  | .lshr, n => Nat.beq n 1
  | .lneg, n => Nat.beq n 1
  | .lcmp, n => Nat.beq n 1
  | .i2l, n => Nat.beq n 1
  | .l2i, n => Nat.beq n 1
  | .i2c, n => Nat.beq n 1
  | .i2f, n => Nat.beq n 1
  | .f2d, n => Nat.beq n 1
  | .fdiv, n => Nat.beq n 1
  | .fcmp _, n => Nat.beq n 1
  | .dcmp _, n => Nat.beq n 1
  | .dup, n => Nat.beq n 1
  | .dup_x1, n => Nat.beq n 1
  | .dup2, n => Nat.beq n 1
  | .pop, n => Nat.beq n 1
  | .iaload, n => Nat.beq n 1
  | .caload, n => Nat.beq n 1
  | .baload, n => Nat.beq n 1
  | .iastore, n => Nat.beq n 1
  | .castore, n => Nat.beq n 1
  | .bastore, n => Nat.beq n 1
  | .arraylength, n => Nat.beq n 1
  | .ireturn, n => Nat.beq n 1
  | .lreturn, n => Nat.beq n 1
  | .freturn, n => Nat.beq n 1
  | .areturn, n => Nat.beq n 1
  | .return_, n => Nat.beq n 1
  | .athrow, n => Nat.beq n 1
  | .iload _, n => Nat.beq n 2
  | .lload _, n => Nat.beq n 2
  | .fload _, n => Nat.beq n 2
  | .aload _, n => Nat.beq n 2
  | .istore _, n => Nat.beq n 2
  | .lstore _, n => Nat.beq n 2
  | .fstore _, n => Nat.beq n 2
  | .astore _, n => Nat.beq n 2
  | .ldc _, n => Nat.beq n 2
  | .newarray _, n => Nat.beq n 2
  | .iinc _ _, n => Nat.beq n 3
  | .ldc_w _, n => Nat.beq n 3
  | .ldc2_w _, n => Nat.beq n 3
  | .goto _, n => Nat.beq n 3
  | .ifCond _ _, n => Nat.beq n 3
  | .if_icmp _ _, n => Nat.beq n 3
  | .getfield _, n => Nat.beq n 3
  | .putfield _, n => Nat.beq n 3
  | .new _, n => Nat.beq n 3
  | .invokestatic _, n => Nat.beq n 3
  | .invokevirtual _, n => Nat.beq n 3
  | .invokespecial _, n => Nat.beq n 3
  | .bipush k, n => Nat.beq n 2 && decide ((Int8.ofInt k).toInt32 = gm_lit k)
  | .sipush k, n => Nat.beq n 3 && decide ((Int16.ofInt k).toInt32 = gm_lit k)
  | .lookupswitch _ ps, _ => (ps.toList.zip (ps.toList.drop 1)).all (fun (a, next) => a.1 < next.1) && ps.toList.all (fun q => decide ((gm_lit q.1).toInt = q.1))
  | .tableswitch _ lo hi os, _ => decide (hi + 1 = lo + os.size) && (List.range os.toList.length).all (fun j => decide ((gm_lit (lo + (j : Int))).toInt = lo + (j : Int)))
  | _, _ => false
def gm_rt : Instr → List Value → Option (Option Value)
  | .ireturn, [.int x] => some (some (.int x))
  | .lreturn, [.long x] => some (some (.long x))
  | .freturn, [.float x] => some (some (.float x))
  | .areturn, [.ref x] => some (some (.ref x))
  | .return_, [] => some none
  | _, _ => none
def gm_arrs : List FieldType := [.int, .char, .boolean, .byte]
/-- what a method's class tables say -/
def gm_Kok (MT : Nat → Option pM) (own : String) (K : pK) : Prop :=
  (∀ k f, gm_asc K.1 k = some f → ∃ r : vw_C, vwCl[f.1]? = some r ∧ f.2 < r.2.2 ∧ Cond.fieldLink own k (r.2.1 f.2).1 (r.2.1 f.2).2.1 (r.2.1 f.2).2.2.1 ∈ gm_U) ∧
  (∀ k q, gm_asc K.2.1 k = some q → gm_mok MT own k q) ∧
  (∀ k v, gm_asc K.2.2.1 k = some v → (∃ x, v = .int x ∧ Cond.constant own k x ∈ gm_U) ∨ (∃ x, v = .long x ∧ Cond.constantLong own k x ∈ gm_U) ∨ (∃ x, v = .float x ∧ Cond.constantFloat own k x ∈ gm_U)) ∧
  (∀ k q, gm_asc K.2.2.2.1 k = some q → ∃ r : vw_C, vwCl[q.1]? = some r ∧ q.2.length = r.2.2 ∧ gm_nr q.2 = true ∧ Cond.classLink own k r.1 ∈ gm_U ∧ Cond.instantiable r.1 r.2.2 ∈ gm_U ∧ Cond.initialized r.1 ∈ gm_U ∧ ∀ j, j < r.2.2 → defaultValue (gm_tyf q.1 j) = vp_V q.2 j)
/-- what a method's code is -/
def gm_Cok (M : pM) : Prop :=
  (∀ pc i len, gm_asc M.2.2.2.2.2.1 pc = some (i, len) → decode M.2.2.1 pc = .ok (i, len) ∧ gm_lenok i len = true) ∧
  (∀ pc k len, gm_asc M.2.2.2.2.2.1 pc = some (.putfield k, len) → ∀ f r, gm_asc M.2.2.2.2.2.2.2.1 k = some f → vwCl[f.1]? = some r → (r.2.1 f.2).2.2.2 = false ∨ ((r.2.1 f.2).2.2.2 = true ∧ M.2.1.name = "<init>" ∧ (r.2.1 f.2).1 = M.1))
section GM
variable {p : Program} {l : Launch} {e : Env} {R : Room} {s : State} {m : MethodId} {args : Array Value} {below : List Frame} {meth : Method} {c : Code} {Q : State → Prop} {dC : Nat → ClassId} {dI : Nat → Nat → Nat} {cy : Nat → ClassId} {A : Nat → Prop} {ad0 : Nat → Nat} {n0 nL : Nat}
theorem gm_ldcwF {T : State} {locs : List Loc} {cells slots : Nat} (X : Stand p l e R s m args below meth c T locs cells slots) (hexec : p.tables.exec = Jvm.exec) {own : String} {index : Nat} {v : UInt32} (hown : s.vm.findClass own = some m.cls)
    (hconst : (Cond.constantFloat own index v).before args s = true) {g : JFrame} (hg : g.method = m) (hdg : decode c.code g.pc = .ok (.ldc_w index, 3)) :
    ∀ target, Steps p.tables e below (T.setTop { g with pc := g.pc + 3, stack := .float v :: g.stack }) target → Steps p.tables e below (T.setTop g) target := by
  obtain ⟨k, cf, hk, hcf, hcp⟩ := Cond.constantFloat_spec hown hconst
  obtain ⟨k', hk', he⟩ := X.warmed.alike.2.2 _ _ hk
  intro target hrest
  subst hg
  jvm_step X.here [hexec, hdg, ldc_w.wp_float (s := T) (f := g) X.here.top hk' (by rw [he]; exact hcf) hcp]
  exact hrest
theorem gm_ldcwf {cc : ByteArray} {pc : Nat} {H : Heap} {locs : List Loc} {cells slots : Nat} {ls : Array Slot} {rest : List Value} (hexec : p.tables.exec = Jvm.exec) (hb : c.code = cc) {own : String} {index : Nat} {v : UInt32} (hown : s.vm.findClass own = some m.cls) (hconst : (Jvm.Cond.constantFloat own index v).before args s = true) (hdg : decode cc pc = .ok (.ldc_w index, 3)) (k : W p l e R s m args below meth c H locs cells slots Q (F0 m (pc + 3) ls (.float v :: rest))) : W p l e R s m args below meth c H locs cells slots Q (F0 m pc ls rest) := by
  intro T hT X
  obtain ⟨t, a, b⟩ := k T hT X
  exact ⟨t, gm_ldcwF X hexec hown hconst (g := F0 m pc ls rest) rfl (by rw [hb]; exact hdg) t a, b⟩
set_option maxHeartbeats 4000000 in
theorem gm_closed {M : pM} {MT : Nat → Option pM} {sq : pQ} {Sp : pS} {X : pX} {d : Nat}
    (hx : p.tables.exec = Jvm.exec) (hb : c.code = M.2.2.1) (hml : c.maxLocals = nL) (hown : s.vm.findClass M.1 = some m.cls) (hts : ∀ w ∈ gm_U, w.before args s = true) (hcu : ∀ (ci : Nat) (r : vw_C), vwCl[ci]? = some r → ∀ w ∈ u_ws r.1 r.2.1 r.2.2, w ∈ gm_U) (hK : va_K (dC, dI) vwCl (gm_tys cy) s) (hA : ∀ q, s.heap.size ≤ q → A q) (hEx : gm_Ex A s) (hR : d + 13 ≤ R.frames ∧ 60 * d + 210 ≤ R.locals)
    (hC : gm_Cok M) (hKK : gm_Kok MT M.1 M.2.2.2.2.2.2.2) (hMok : ∀ mid M2, MT mid = some M2 → gm_Mok M2) (harr : ∀ t ∈ gm_arrs, Cond.arrayClass t ∈ gm_U)
    (hscr : ∀ q, sq = some q → va_X (ad0 88888) q.1 q.2 s s.heap ∧ ad0 88888 < s.heap.size ∧ ¬ A (ad0 88888)) (hinit : M.2.1.name = "<init>" → meth.name = "<init>")
    (hS1 : ∀ mid M2 av h v h1 c1 s1, MT mid = some M2 → Sp mid av h (.inl v) h1 c1 s1 → gm_Met1 l d M2 av h v h1 c1 s1 ∧ (M2.2.1.name = "<init>" ∨ h1.length = h.length))
    (hS2 : ∀ mid M2 av h E h1 c1 s1, MT mid = some M2 → Sp mid av h (.inr E) h1 c1 s1 → gm_Met2 l d M2 av h E h1 c1 s1 ∧ h1.length = h.length ∧ M2.2.2.2.2.2.2.1 = [])
    (hret : ∀ pc i len ls st h cl sl v, gm_asc M.2.2.2.2.2.1 pc = some (i, len) → gm_rt i st = some v → gm_okr M.2.2.2.2.1 v → X (.inl v) h cl sl → gm_G p l e R s m args below meth c Q dC dI cy A ad0 n0 nL pc ls st h cl sl)
    (hthr : ∀ pc k len E ls st h cl sl, gm_asc M.2.2.2.2.2.1 pc = some (.new k, len) → gm_asc M.2.2.2.2.2.2.2.2.2.2.2 k = some E → gm_sum st ≤ 8 → X (.inr E) h (cl + 1) (sl + 6) → gm_G p l e R s m args below meth c Q dC dI cy A ad0 n0 nL pc ls st h cl sl)
    (hgx : ∀ pc ls E h cl sl, gm_thr M (gm_G p l e R s m args below meth c Q dC dI cy A ad0 n0 nL) X pc ls E h cl sl → gm_GX p l e R s m args below meth c Q dC dI cy A ad0 n0 nL pc ls E h cl sl) : gm_cl M gm_tyf sq Sp (gm_G p l e R s m args below meth c Q dC dI cy A ad0 n0 nL) X := by
  intro pc i len hasc ls st h cl sl hw
  obtain ⟨hd, hlen⟩ := hC.1 pc i len hasc
  obtain ⟨hKF, hKM, hKC, hKN⟩ := hKK
  have one : ∀ {n : Nat}, Nat.beq len n = true → len = n := fun h => Nat.eq_of_beq_eq_true h
  cases i with
  | iconst k => have hl := one hlen; subst hl; exact gm_s_iconst hx hb hd hw
  | bipush k =>
    have h9 := Bool.and_eq_true_iff.mp hlen
    have hl := one h9.1; subst hl
    exact gm_s_bipush (of_decide_eq_true h9.2) hx hb hd hw
  | sipush k =>
    have h9 := Bool.and_eq_true_iff.mp hlen
    have hl := one h9.1; subst hl
    exact gm_s_sipush (of_decide_eq_true h9.2) hx hb hd hw
  | lconst k => have hl := one hlen; subst hl; exact gm_s_lconst hx hb hd hw
  | fconst k =>
    have hl := one hlen; subst hl
    match k, hd, hw with
    | 0, hd, hw => exact gm_s_fconst0 hx hb hd hw
    | 1, hd, hw => exact False.elim hw
    | 2, hd, hw => exact False.elim hw
  | ldc k =>
    have hl := one hlen; subst hl
    obtain ⟨v, hv, h0⟩ := gm_op_of hw
    rcases hKC k v hv with ⟨x, rfl, hc⟩ | ⟨x, rfl, hc⟩ | ⟨x, rfl, hc⟩
    · exact gm_lift0 h0 fun _ _ _ _ _ kk => lv_ldc hx hb hown (hts _ hc) hd kk
    · exact False.elim h0
    · exact gm_lift0 h0 fun _ _ _ _ _ kk => lv_ldcf hx hb hown (hts _ hc) hd kk
  | ldc_w k =>
    have hl := one hlen; subst hl
    obtain ⟨v, hv, h0⟩ := gm_op_of hw
    rcases hKC k v hv with ⟨x, rfl, hc⟩ | ⟨x, rfl, hc⟩ | ⟨x, rfl, hc⟩
    · exact gm_lift0 h0 fun _ _ _ _ _ kk => lv_ldcw hx hb hown (hts _ hc) hd kk
    · exact False.elim h0
    · exact gm_lift0 h0 fun _ _ _ _ _ kk => gm_ldcwf hx hb hown (hts _ hc) hd kk
  | ldc2_w k =>
    have hl := one hlen; subst hl
    obtain ⟨v, hv, h0⟩ := gm_op_of hw
    rcases hKC k v hv with ⟨x, rfl, hc⟩ | ⟨x, rfl, hc⟩ | ⟨x, rfl, hc⟩
    · exact False.elim h0
    · exact gm_lift0 h0 fun _ _ _ _ _ kk => lv_ldc2 hx hb hown (hts _ hc) hd kk
    · exact False.elim h0
  | iload_n k => have hl := one hlen; subst hl; exact gm_s_iload_n hx hb hd hw
  | lload_n k => have hl := one hlen; subst hl; exact gm_s_lload_n hx hb hd hw
  | aload_n k => have hl := one hlen; subst hl; exact gm_s_aload_n hx hb hd hw
  | istore_n k => have hl := one hlen; subst hl; exact gm_s_istore_n hx hb hd hw
  | lstore_n k => have hl := one hlen; subst hl; exact gm_s_lstore_n hx hb hd hw
  | astore_n k => have hl := one hlen; subst hl; exact gm_s_astore_n hx hb hd hw
  | iload k => have hl := one hlen; subst hl; exact gm_s_iload hx hb hd hw
  | lload k => have hl := one hlen; subst hl; exact gm_s_lload hx hb hd hw
  | fload k => have hl := one hlen; subst hl; exact gm_s_fload hx hb hd hw
  | aload k => have hl := one hlen; subst hl; exact gm_s_aload hx hb hd hw
  | istore k => have hl := one hlen; subst hl; exact gm_s_istore hx hb hd hw
  | lstore k => have hl := one hlen; subst hl; exact gm_s_lstore hx hb hd hw
  | fstore k => have hl := one hlen; subst hl; exact gm_s_fstore hx hb hd hw
  | astore k => have hl := one hlen; subst hl; exact gm_s_astore hx hb hd hw
  | goto k => have hl := one hlen; subst hl; exact gm_s_goto hx hb hd hw
  | iinc k dd => have hl := one hlen; subst hl; exact gm_s_iinc hx hb hd hw
  | iadd => have hl := one hlen; subst hl; exact gm_s_iadd hx hb hd hw
  | isub => have hl := one hlen; subst hl; exact gm_s_isub hx hb hd hw
  | imul => have hl := one hlen; subst hl; exact gm_s_imul hx hb hd hw
  | iand => have hl := one hlen; subst hl; exact gm_s_iand hx hb hd hw
  | ior => have hl := one hlen; subst hl; exact gm_s_ior hx hb hd hw
  | ixor => have hl := one hlen; subst hl; exact gm_s_ixor hx hb hd hw
  | ishl => have hl := one hlen; subst hl; exact gm_s_ishl hx hb hd hw
  | ishr => have hl := one hlen; subst hl; exact gm_s_ishr hx hb hd hw
  | iushr => have hl := one hlen; subst hl; exact gm_s_iushr hx hb hd hw
  | idiv => have hl := one hlen; subst hl; exact gm_s_idiv hx hb hd hw
  | irem => have hl := one hlen; subst hl; exact gm_s_irem hx hb hd hw
  | ladd => have hl := one hlen; subst hl; exact gm_s_ladd hx hb hd hw
  | lsub => have hl := one hlen; subst hl; exact gm_s_lsub hx hb hd hw
  | lmul => have hl := one hlen; subst hl; exact gm_s_lmul hx hb hd hw
  | land => have hl := one hlen; subst hl; exact gm_s_land hx hb hd hw
  | lor => have hl := one hlen; subst hl; exact gm_s_lor hx hb hd hw
  | lxor => have hl := one hlen; subst hl; exact gm_s_lxor hx hb hd hw
  | lshl => have hl := one hlen; subst hl; exact gm_s_lshl hx hb hd hw
  | lshr => have hl := one hlen; subst hl; exact gm_s_lshr hx hb hd hw
  | lcmp => have hl := one hlen; subst hl; exact gm_s_lcmp hx hb hd hw
  | ineg => have hl := one hlen; subst hl; exact gm_s_ineg hx hb hd hw
  | lneg => have hl := one hlen; subst hl; exact gm_s_lneg hx hb hd hw
  | i2l => have hl := one hlen; subst hl; exact gm_s_i2l hx hb hd hw
  | l2i => have hl := one hlen; subst hl; exact gm_s_l2i hx hb hd hw
  | i2c => have hl := one hlen; subst hl; exact gm_s_i2c hx hb hd hw
  | i2f => have hl := one hlen; subst hl; exact gm_s_i2f hx hb hd hw
  | f2d => have hl := one hlen; subst hl; exact gm_s_f2d hx hb hd hw
  | caload => have hl := one hlen; subst hl; exact gm_s_caload hx hb hK hd hw
  | baload => have hl := one hlen; subst hl; exact gm_s_baload hx hb hK hd hw
  | iastore => have hl := one hlen; subst hl; exact gm_s_iastore hx hb hK hd hw
  | castore => have hl := one hlen; subst hl; exact gm_s_castore hx hb hK hd hw
  | bastore => have hl := one hlen; subst hl; exact gm_s_bastore hx hb hK hd hw
  | iaload => have hl := one hlen; subst hl; exact gm_s_iaload hx hb hK hscr hd hw
  | arraylength => have hl := one hlen; subst hl; exact gm_s_arraylength hx hb hscr hd hw
  | fdiv =>
    have hl := one hlen; subst hl
    match st, hw with
    | .float y :: .float x :: r, hw => exact gm_s_fdiv hx hb hd hw
  | fcmp op =>
    have hl := one hlen; subst hl
    match st, hw with
    | .float y :: .float x :: r, hw => exact gm_s_fcmp hx hb hd hw
  | dcmp op =>
    have hl := one hlen; subst hl
    match st, hw with
    | .double y :: .double x :: r, hw => exact gm_s_dcmp hx hb hd hw
  | dup =>
    have hl := one hlen; subst hl
    match st, hw with
    | v :: r, hw => exact gm_s_dup hx hb hd hw
  | dup_x1 =>
    have hl := one hlen; subst hl
    match st, hw with
    | v :: w :: r, hw => exact gm_s_dup_x1 hx hb hd hw
  | dup2 =>
    have hl := one hlen; subst hl
    match st, hw with
    | v :: w :: r, hw => exact gm_s_dup2 hx hb hd hw
  | pop =>
    have hl := one hlen; subst hl
    match st, hw with
    | v :: r, hw => exact gm_s_pop hx hb hd hw
  | ifCond cd o =>
    have hl := one hlen; subst hl
    obtain ⟨x, r, rfl, h0⟩ := gm_i1_of hw
    cases cd with
    | eq => exact gm_s_if_eq hx hb hd h0
    | ne => exact gm_s_if_ne hx hb hd h0
    | lt => exact gm_s_if_lt hx hb hd h0
    | ge => exact gm_s_if_ge hx hb hd h0
    | gt => exact gm_s_if_gt hx hb hd h0
    | le => exact gm_s_if_le hx hb hd h0
  | if_icmp cd o =>
    have hl := one hlen; subst hl
    obtain ⟨x, y, r, rfl, h0⟩ := gm_i2_of hw
    cases cd with
    | eq => exact gm_s_icmp_eq hx hb hd h0
    | ne => exact gm_s_icmp_ne hx hb hd h0
    | lt => exact gm_s_icmp_lt hx hb hd h0
    | ge => exact gm_s_icmp_ge hx hb hd h0
    | gt => exact gm_s_icmp_gt hx hb hd h0
    | le => exact gm_s_icmp_le hx hb hd h0
  | lookupswitch dd ps =>
    obtain ⟨x, r, rfl, h0⟩ := gm_i1_of hw
    have h9 := Bool.and_eq_true_iff.mp hlen
    exact gm_s_look hx hb hd h9.1 (fun q hq => of_decide_eq_true (List.all_eq_true.mp h9.2 q hq)) h0
  | tableswitch dd lo hi os =>
    obtain ⟨x, r, rfl, h0⟩ := gm_i1_of hw
    have h9 := Bool.and_eq_true_iff.mp hlen
    exact gm_s_tab hx hb hd (of_decide_eq_true h9.1) (fun j hj => of_decide_eq_true (List.all_eq_true.mp h9.2 j (List.mem_range.mpr hj))) h0
  | getfield k => have hl := one hlen; subst hl; exact gm_s_getfield hx hb hown hts hcu hK hKF hd hw
  | putfield k =>
    have hl := one hlen; subst hl
    match st, hw with
    | v :: .ref a :: r, hw => exact gm_s_putfield hx hb hown hts hcu hK hKF (fun f r hf hr => (hC.2 pc k _ hasc f r hf hr).imp id (fun z => ⟨z.1, hinit z.2.1, z.2.2⟩)) hd hw
  | newarray t =>
    have hl := one hlen; subst hl
    obtain ⟨x, r, rfl, h1, hw2⟩ := gm_i1_of hw
    obtain ⟨h2, hw3⟩ := gm_if_of hw2
    obtain ⟨h3, h4⟩ := gm_if_of hw3
    obtain ⟨E, hE, h5⟩ := gm_op_of h4
    refine gm_s_newarray hx hb hts (harr _ ?_) hK hA hd h1 h2 h3 hE h5
    cases t <;> first | exact (by decide) | cases hE
  | new k =>
    have hl := one hlen; subst hl
    have hw2 : (match gm_asc M.2.2.2.2.2.2.2.2.2.2.2 k with
      | some E => gm_if (Nat.ble (gm_sum st) 8) (X (.inr E) h (cl + 1) (sl + 6))
      | none => gm_op (gm_asc M.2.2.2.2.2.2.2.2.2.2.1 k) fun q => gm_if (gm_frs h.length st && (gm_frl h.length ls && gm_frh h.length h) && (gm_frs h.length q.2 && Nat.blt h.length 88888)) (gm_G p l e R s m args below meth c Q dC dI cy A ad0 n0 nL (pc + 3) ls (.ref h.length :: st) (h ++ [.inr q]) (cl + 1) (sl + q.2.length))) := hw
    split at hw2
    · rename_i E h1
      obtain ⟨h2, h3⟩ := gm_if_of hw2
      exact hthr pc k _ E ls st h cl sl hasc h1 (Nat.le_of_ble_eq_true h2) h3
    · obtain ⟨q, h1, hq2⟩ := gm_op_of hw2
      obtain ⟨h2, h3⟩ := gm_if_of hq2
      exact gm_s_new hx hb hown hts hcu hK hA (hKN k q h1) hd h2 h3
  | invokestatic k =>
    have hl := one hlen; subst hl
    obtain ⟨q, hq, h0⟩ := gm_op_of hw
    cases hk : Nat.ble 100 q.2 with
    | true => rw [hk] at h0; exact False.elim h0
    | false =>
      rw [hk, cond_false] at h0
      have hlt : q.2 < 100 := by
        rcases Nat.lt_or_ge q.2 100 with z | z
        · exact z
        · rw [Nat.ble_eq_true_of_le z] at hk; cases hk
      cases hk5 : Nat.ble 50 q.2 with
      | true =>
        rw [hk5, cond_true] at h0
        have hge : 50 ≤ q.2 := Nat.le_of_ble_eq_true hk5
        generalize hn9 : q.2 - 50 = n9 at h0
        obtain ⟨z, hz, hq2⟩ := gm_op_of h0
        obtain ⟨hsum, v, h1, c1, s1, hSp, hG⟩ := gm_if_of hq2
        rcases hKM k q hq with ⟨_, z1, _⟩ | ⟨M2, hM2, _, _, ⟨_, _, hns, hnm, hstt, hpd, hhh⟩ | ⟨z1, _⟩ | ⟨z1, _⟩ | ⟨z1, _⟩⟩
        · omega
        · obtain ⟨hm1, hm2⟩ := hS1 _ M2 _ _ _ _ _ _ hM2 hSp
          exact gm_s_staticN (q := q) hx hb hml hown hts hK hA hEx hR (hMok _ _ hM2) hns hstt hpd hhh hm1 (hm2.resolve_left hnm) hd (by rw [hn9]; exact hz) hsum hG
        · omega
        · omega
        · omega
      | false =>
        rw [hk5, cond_false] at h0
        have hlt5 : q.2 < 50 := by
          rcases Nat.lt_or_ge q.2 50 with z | z
          · exact z
          · rw [Nat.ble_eq_true_of_le z] at hk5; cases hk5
        obtain ⟨z, hz, hq2⟩ := gm_op_of h0
        obtain ⟨hsum, hcall⟩ := gm_if_of hq2
        rcases hKM k q hq with ⟨_, z1, _⟩ | ⟨M2, hM2, _, hlk, ⟨z1, _⟩ | ⟨_, hnm, hstt, hpd⟩ | ⟨z1, _⟩ | ⟨z1, _⟩⟩
        · omega
        · omega
        · have hlk := hlk.resolve_right (fun z => by omega)
          rcases hcall with ⟨v, h1, c1, s1, hSp, hG⟩ | ⟨E, h1, c1, s1, hSp, hG⟩
          · obtain ⟨hm1, hm2⟩ := hS1 _ M2 _ _ _ _ _ _ hM2 hSp
            exact gm_s_static (q := q) hx hb hml hown hts hK hA hEx hR (hMok _ _ hM2) hlk hstt hpd hm1 (hm2.resolve_left hnm) hd hz hsum hG
          · obtain ⟨hm1, hm2, hm3⟩ := hS2 _ M2 _ _ _ _ _ _ hM2 hSp
            exact gm_s_staticX (q := q) hx hb hml hown hts hK hA hEx hR (hMok _ _ hM2) hlk hstt hpd hm3 hm1 hm2 hd hz hsum (hgx _ _ _ _ _ _ hG)
        · omega
        · omega
  | invokevirtual k =>
    have hl := one hlen; subst hl
    obtain ⟨q, hq, h0⟩ := gm_op_of hw
    cases hk : (Nat.blt q.2 100 || Nat.ble 200 q.2) with
    | true => rw [hk] at h0; exact False.elim h0
    | false =>
      rw [hk] at h0
      have hk2 := Bool.or_eq_false_iff.mp hk
      have hge : 100 ≤ q.2 := by
        rcases Nat.lt_or_ge q.2 100 with z | z
        · rw [Nat.blt_eq.mpr z] at hk2; cases hk2.1
        · exact z
      have hlt : q.2 < 200 := by
        rcases Nat.lt_or_ge q.2 200 with z | z
        · exact z
        · rw [Nat.ble_eq_true_of_le z] at hk2; cases hk2.2
      obtain ⟨z, hz, h2⟩ := gm_op_of h0
      obtain ⟨a, r, hzr, h3⟩ := gm_sa_of h2
      unfold gm_ob at h3
      split at h3
      · rename_i ci fs hcell
        cases hk3 : Nat.beq (q.1 / 1000) (ci + 1) with
        | false => rw [hk3] at h3; exact False.elim h3
        | true =>
          rw [hk3] at h3
          obtain ⟨hsum, hcall⟩ := gm_if_of h3
          rcases hKM k q hq with ⟨_, z1, _⟩ | ⟨M2, hM2, _, hlk, ⟨_, z1, _⟩ | ⟨z1, _⟩ | ⟨_, _, hnm, hins, hsel, hpd, hrc, hhh⟩ | ⟨z1, _⟩⟩
          · omega
          · omega
          · omega
          · obtain ⟨ci9, rc, hci9, hrc1, hrn⟩ := hrc
            have hlk := hlk.resolve_right (fun z => by omega)
            have hci : ci9 = ci := by
              have := Nat.eq_of_beq_eq_true hk3
              omega
            subst hci
            rcases hcall with ⟨v, h1, c1, s1, hSp, hG⟩ | ⟨E, h1, c1, s1, hSp, hG⟩
            · obtain ⟨hm1, hm2⟩ := hS1 _ M2 _ _ _ _ _ _ hM2 hSp
              exact gm_s_virtual (q := q) hx hb hml hown hts hK hA hEx hR (hMok _ _ hM2) hlk hins hsel hpd hhh hrc1 hrn hcell hm1 (hm2.resolve_left hnm) hd hz hzr hsum hG
            · obtain ⟨hm1, hm2, hm3⟩ := hS2 _ M2 _ _ _ _ _ _ hM2 hSp
              exact gm_s_virtualX (q := q) hx hb hml hown hts hK hA hEx hR (hMok _ _ hM2) hlk hins hsel hpd hhh hrc1 hrn hcell hm1 hm2 hd hz hzr hsum (hgx _ _ _ _ _ _ hG)
          · omega
      · exact False.elim h3
  | invokespecial k =>
    have hl := one hlen; subst hl
    obtain ⟨q, hq, h0⟩ := gm_op_of hw
    cases hk : Nat.blt q.2 200 with
    | true => rw [hk] at h0; exact False.elim h0
    | false =>
      rw [hk, cond_false] at h0
      have hge : 200 ≤ q.2 := by
        rcases Nat.lt_or_ge q.2 200 with z | z
        · rw [Nat.blt_eq.mpr z] at hk; cases hk
        · exact z
      generalize hn9 : q.2 - 200 = n9 at h0
      obtain ⟨z, hz, h2⟩ := gm_op_of h0
      obtain ⟨a, r, hzr, hq2⟩ := gm_sa_of h2
      obtain ⟨hsum, h3⟩ := gm_if_of hq2
      rcases hKM k q hq with ⟨z0, z1, hl1, hl2, hl3⟩ | ⟨M2, hM2, hne, hlk, ⟨_, z1, _⟩ | ⟨z1, _⟩ | ⟨_, z1, _⟩ | ⟨_, hins, hnm, hpd, hrt, hhh⟩⟩
      · rw [z0] at h3
        have hst : st = .ref a :: r := by
          have h00 : n9 = 0 := by omega
          rw [h00] at hz
          simp only [gm_pop, Option.some.injEq] at hz
          subst hz
          exact hzr
        subst hst
        exact gm_s_obj hx hb hml hown hts ⟨by omega, by omega⟩ hl1 hl2 hl3 hd hsum h3
      · omega
      · omega
      · omega
      · obtain ⟨n1, hn1⟩ := Nat.exists_eq_succ_of_ne_zero hne
        rw [hn1] at h3
        obtain ⟨h1, c1, s1, hSp, hq3⟩ := h3
        obtain ⟨hfr, hG⟩ := gm_if_of hq3
        rw [hn1] at hM2
        obtain ⟨hm1, hm2⟩ := hS1 _ M2 _ _ _ _ _ _ hM2 hSp
        exact gm_s_init (q := q) hx hb hml hown hts hK hA hEx hR (hMok _ _ hM2) (hlk.imp id (fun z => z.2)) hins hnm hpd hrt hhh hm1 hd (by rw [hn9]; exact hz) hzr hsum hfr hG
  | ireturn =>
    match st, hw with
    | [.int x], hw => exact hret pc _ len ls _ h cl sl _ hasc rfl (gm_okrx_of hw).1 (gm_okrx_of hw).2
  | lreturn =>
    match st, hw with
    | [.long x], hw => exact hret pc _ len ls _ h cl sl _ hasc rfl (gm_okrx_of hw).1 (gm_okrx_of hw).2
  | freturn =>
    match st, hw with
    | [.float x], hw => exact hret pc _ len ls _ h cl sl _ hasc rfl (gm_okrx_of hw).1 (gm_okrx_of hw).2
  | areturn =>
    match st, hw with
    | [.ref x], hw => exact hret pc _ len ls _ h cl sl _ hasc rfl (gm_okrx_of hw).1 (gm_okrx_of hw).2
  | return_ =>
    match st, hw with
    | [], hw => exact hret pc _ len ls _ h cl sl _ hasc rfl (gm_okrx_of hw).1 (gm_okrx_of hw).2
  | _ => exact False.elim hw
end GM
