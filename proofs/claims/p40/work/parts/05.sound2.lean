/-! SOUNDNESS, 2: switches, fields, arrays, what is made, calls -/
def gm_U : List Cond := lw_tbl.filter goodWord
theorem gm_U_in {w : Cond} (h : w ∈ lw_tbl) (hg : goodWord w = true) : w ∈ gm_U := List.mem_filter.mpr ⟨h, hg⟩
theorem gm_U_good {ws : List Cond} (h : ∀ w ∈ ws, w ∈ gm_U) : GoodIn gm_U ws := fun w hw => ⟨h w hw, good_of_word (List.mem_filter.mp (h w hw)).2⟩
def gm_tyf (ci j : Nat) : FieldType := match ci with
  | 0 => tyX0 j
  | 1 => tyX1 j
  | 2 => tyX2 j
  | 3 => tyX3 j
  | 4 => tyX4 j
  | 5 => tyX5 j
  | 6 => tyX6 j
  | 7 => tyX7 j
  | 8 => tyJ0 j
  | _ => tyJ4 j
def gm_tys (cy : Nat → ClassId) : List (ClassId × FieldType) := [(cy 0, .int), (cy 1, .char), (cy 2, .boolean), (cy 3, .byte)]
theorem gm_cl_ty : ∀ (ci : Nat) (r : vw_C), vwCl[ci]? = some r → (∀ k, k < r.2.2 → parseFieldDescriptor (r.2.1 k).2.2.1 = some (gm_tyf ci k)) ∧ (∀ a, a < r.2.2 → ∀ b, b < r.2.2 → a ≠ b → (r.2.1 a).2.1 ≠ (r.2.1 b).2.1) := by
  intro ci r h
  match ci, h with
  | 0, h => cases h; exact ⟨tyX0_ok, nmX0⟩
  | 1, h => cases h; exact ⟨tyX1_ok, nmX1⟩
  | 2, h => cases h; exact ⟨tyX2_ok, nmX2⟩
  | 3, h => cases h; exact ⟨tyX3_ok, nmX3⟩
  | 4, h => cases h; exact ⟨tyX4_ok, nmX4⟩
  | 5, h => cases h; exact ⟨tyX5_ok, nmX5⟩
  | 6, h => cases h; exact ⟨tyX6_ok, nmX6⟩
  | 7, h => cases h; exact ⟨tyX7_ok, nmX7⟩
  | 8, h => cases h; exact ⟨tyJ0_ok, nmJ0⟩
  | 9, h => cases h; exact ⟨tyJ4_ok, nmJ4⟩
  | ci + 10, h => simp [vwCl] at h
theorem gm_W_at {cy : Nat → ClassId} {ad : Nat → Nat} {h : pH} {a : Nat} {e : pE} (he : gm_nth h a = some e) : (gm_W cy ad 0 h)[a]? = some (ad a, gm_e cy ad e) := by
  rw [gm_W_get, ← gm_nth_some, he]
  simp
theorem gm_W_up {cy : Nat → ClassId} {ad : Nat → Nat} {h : pH} {a : Nat} {e : pE} : (gm_W cy ad 0 h).set a (ad a, gm_e cy ad e) = gm_W cy ad 0 (gm_set h a e) := by
  rw [gm_set_eq, gm_W_set]
  simp
theorem gm_nar_b {x : Int32} (h : -128 ≤ x ∧ x ≤ 127) : narrow .byte (.int x) = .int x := by
  show Value.int x.toInt8.toInt32 = .int x
  congr 1
  have h0 : (-128 : Int32).toInt ≤ x.toInt := Int32.le_iff_toInt_le.mp h.1
  have h1 : x.toInt ≤ (127 : Int32).toInt := Int32.le_iff_toInt_le.mp h.2
  have e0 : (-128 : Int32).toInt = -128 := by decide
  have e1 : (127 : Int32).toInt = 127 := by decide
  rw [e0] at h0
  rw [e1] at h1
  apply Int32.toInt_inj.mp
  rw [Int8.toInt_toInt32, Int32.toInt_toInt8]
  have : ((2 : Int) ^ 8) = 256 := by decide
  rw [Int.bmod_def]
  split <;> omega
theorem gm_ok_nf (ad : Nat → Nat) {ty : FieldType} {v : Value} (h : gm_ok ty v) : narrow ty (gm_v ad v) = gm_v ad v ∧ fits ty (gm_v ad v) = true := by
  unfold gm_ok at h
  split at h
  · exact ⟨rfl, rfl⟩
  · rcases h with rfl | rfl <;> exact ⟨rfl, rfl⟩
  · rename_i x
    refine ⟨?_, ?_⟩
    · show narrow .char (.int x) = .int x
      have h0 : 0 ≤ x.toInt := by simpa [Int32.le_iff_toInt_le] using h.1
      have h1 : x.toInt ≤ 65535 := by simpa [Int32.le_iff_toInt_le] using h.2
      obtain ⟨n, hn⟩ : ∃ n : Nat, x.toInt = (n : Int) := ⟨x.toInt.toNat, by omega⟩
      have hx : x = nI n := by
        apply Int32.toInt_inj.mp
        rw [hn, nI_toInt (by omega)]
      rw [hx]
      exact (pk_charN (q := n) (by omega)).1
    · show fits .char (.int x) = true
      simp [fits, h.1, h.2]
  · rename_i x
    refine ⟨gm_nar_b h, ?_⟩
    show fits .byte (.int x) = true
    simp [fits, h.1, h.2]
  all_goals first | exact ⟨rfl, rfl⟩ | exact h.elim
theorem gm_set_len {h : pH} {a : Nat} {e : pE} : (gm_set h a e).length = h.length := by rw [gm_set_eq, List.length_set]
theorem gm_ag.put {n0 : Nat} {ad0 ad : Nat → Nat} {h : pH} {a : Nat} {e : pE} (h1 : gm_ag n0 ad0 ad h) : gm_ag n0 ad0 ad (gm_set h a e) := by
  unfold gm_ag
  rw [gm_set_len]
  exact h1
theorem gm_fr_v {n : Nat} {ad ad1 : Nat → Nat} (hag : ∀ i, i < n ∨ i = 88888 → ad1 i = ad i) {v : Value} (h : gm_fr n v = true) : gm_v ad1 v = gm_v ad v := by
  cases v with
  | ref a =>
    simp only [gm_fr, Bool.or_eq_true] at h
    show Value.ref (ad1 a) = Value.ref (ad a)
    rw [hag a (h.imp (fun z => Nat.blt_eq.mp z) (fun z => Nat.eq_of_beq_eq_true z))]
  | _ => rfl
theorem gm_frs_v {n : Nat} {ad ad1 : Nat → Nat} (hag : ∀ i, i < n ∨ i = 88888 → ad1 i = ad i) : ∀ {st : List Value}, gm_frs n st = true → st.map (gm_v ad1) = st.map (gm_v ad)
  | [], _ => rfl
  | v :: r, h => by
    simp only [gm_frs, Bool.and_eq_true] at h
    simp only [List.map_cons, gm_fr_v hag h.1, gm_frs_v hag h.2]
theorem gm_frl_v {n : Nat} {ad ad1 : Nat → Nat} (hag : ∀ i, i < n ∨ i = 88888 → ad1 i = ad i) : ∀ {ls : pL}, gm_frl n ls = true → ∀ (i : Nat) (v : Value), ls[i]? = some (some v) → gm_v ad1 v = gm_v ad v
  | [], _, i, v, h => by simp at h
  | none :: r, h, i, v, hv => by
    cases i with
    | zero => simp at hv
    | succ i => exact gm_frl_v hag (ls := r) h i v (by simpa using hv)
  | some w :: r, h, i, v, hv => by
    simp only [gm_frl, Bool.and_eq_true] at h
    cases i with
    | zero =>
      simp at hv
      subst hv
      exact gm_fr_v hag h.1
    | succ i => exact gm_frl_v hag h.2 i v (by simpa using hv)
theorem gm_frh_W {n : Nat} {ad ad1 : Nat → Nat} {cy : Nat → ClassId} (hag : ∀ i, i < n ∨ i = 88888 → ad1 i = ad i) : ∀ {h : pH} {k : Nat}, k + h.length ≤ n → gm_frh n h = true → gm_W cy ad1 k h = gm_W cy ad k h
  | [], _, _, _ => rfl
  | .inl q :: r, k, hk, h => by
    simp only [List.length_cons] at hk
    simp only [gm_W, gm_e, hag k (Or.inl (by omega)), gm_frh_W hag (h := r) (k := k + 1) (by omega) h]
  | .inr q :: r, k, hk, h => by
    simp only [List.length_cons] at hk
    simp only [gm_frh, Bool.and_eq_true] at h
    simp only [gm_W, gm_e, hag k (Or.inl (by omega)), gm_frs_v hag h.1, gm_frh_W hag (h := r) (k := k + 1) (by omega) h.2]
theorem gm_hL.moved {lsA : Array Slot} {nL n : Nat} {ad ad1 : Nat → Nat} {ls : pL} (h : gm_hL lsA nL ad ls) (hag : ∀ i, i < n ∨ i = 88888 → ad1 i = ad i) (hf : gm_frl n ls = true) : gm_hL lsA nL ad1 ls :=
  ⟨h.1, h.2.1, h.2.2.1, fun i v hv => by rw [gm_frl_v hag hf i v hv]; exact h.2.2.2 i v hv⟩
section GM
variable {p : Program} {l : Launch} {e : Env} {R : Room} {s : State} {m : MethodId} {args : Array Value} {below : List Frame} {meth : Method} {c : Code} {Q : State → Prop} {dC : Nat → ClassId} {dI : Nat → Nat → Nat} {cy : Nat → ClassId} {A : Nat → Prop} {ad0 : Nat → Nat} {n0 nL : Nat}
variable {pc n : Nat} {ls : pL} {st : List Value} {h : pH} {cl sl : Nat} {cc : ByteArray}
theorem gm_look_of {d : Int} {x : Int32} {f : Nat → Prop} : ∀ {ps : List (Int × Int)}, (∀ q ∈ ps, (gm_lit q.1).toInt = q.1) → gm_look pc d x f ps → ∃ (o : Int) (t : Nat), Op.lookupswitch.offset ps d x.toInt = o ∧ (pc : Int) + o = (t : Int) ∧ f t
  | [], _, h => by
    obtain ⟨t, h1, h2⟩ := gm_jmp_of h
    exact ⟨d, t, rfl, h1, h2⟩
  | (k, o) :: r, hk, h => by
    have hk1 : (gm_lit k).toInt = k := hk (k, o) List.mem_cons_self
    by_cases hx : x = gm_lit k
    · obtain ⟨t, h1, h2⟩ := gm_jmp_of (h.1 hx)
      refine ⟨o, t, ?_, h1, h2⟩
      rw [hx, hk1]
      simp [Op.lookupswitch.offset]
    · obtain ⟨o2, t, h1, h2, h3⟩ := gm_look_of (fun q hq => hk q (List.mem_cons_of_mem _ hq)) (h.2 hx)
      exact ⟨o2, t, by rw [lv_osw hx hk1]; exact h1, h2, h3⟩
theorem gm_s_look {d : Int} {ps : Array (Int × Int)} {x : Int32} {r : List Value} {len : Nat} (hx : p.tables.exec = Jvm.exec) (hb : c.code = cc) (hd : decode cc pc = .ok (.lookupswitch d ps, len)) (hp : (ps.toList.zip (ps.toList.drop 1)).all (fun (a, next) => a.1 < next.1) = true) (hk : ∀ q ∈ ps.toList, (gm_lit q.1).toInt = q.1) (h0 : gm_look pc d x (fun t => gm_G p l e R s m args below meth c Q dC dI cy A ad0 n0 nL t ls r h cl sl) ps.toList) : gm_G p l e R s m args below meth c Q dC dI cy A ad0 n0 nL pc ls (.int x :: r) h cl sl := by
  obtain ⟨o, t, h1, h2, h3⟩ := gm_look_of hk h0
  exact gm_lift0 h3 fun _ _ _ _ _ k => lv_lookup hx hb hd hp h1 h2 k
theorem gm_tab_of {d : Int} {x : Int32} {f : Nat → Prop} : ∀ {os : List Int} {v : Int}, (∀ j : Nat, j < os.length → (gm_lit (v + j)).toInt = v + j) → gm_tab pc d x f v os → (∃ (j : Nat) (o : Int) (t : Nat), x.toInt = v + j ∧ os[j]? = some o ∧ (pc : Int) + o = (t : Int) ∧ f t) ∨ ((∀ j : Nat, j < os.length → x.toInt ≠ v + j) ∧ ∃ t : Nat, (pc : Int) + d = (t : Int) ∧ f t)
  | [], v, _, h => by
    obtain ⟨t, h1, h2⟩ := gm_jmp_of h
    exact Or.inr ⟨fun j hj => by simp at hj, t, h1, h2⟩
  | o :: r, v, hk, h => by
    have hk0 : (gm_lit v).toInt = v := by simpa using hk 0 (by simp)
    by_cases hx : x = gm_lit v
    · obtain ⟨t, h1, h2⟩ := gm_jmp_of (h.1 hx)
      exact Or.inl ⟨0, o, t, by rw [hx, hk0]; simp, by simp, h1, h2⟩
    · have hk' : ∀ j : Nat, j < r.length → (gm_lit (v + 1 + j)).toInt = v + 1 + j := fun j hj => by
        have := hk (j + 1) (by simp; omega)
        rw [show v + 1 + (j : Int) = v + ((j + 1 : Nat) : Int) by push_cast; omega]
        exact this
      rcases gm_tab_of hk' (h.2 hx) with ⟨j, o2, t, h1, h2, h3, h4⟩ | ⟨h1, t, h2, h3⟩
      · exact Or.inl ⟨j + 1, o2, t, by rw [h1]; push_cast; omega, by simpa using h2, h3, h4⟩
      · refine Or.inr ⟨fun j hj => ?_, t, h2, h3⟩
        cases j with
        | zero =>
          intro hxe
          apply hx
          apply Int32.toInt_inj.mp
          rw [hk0, hxe]
          simp
        | succ j =>
          have := h1 j (by simpa using hj)
          intro hxe
          apply this
          rw [hxe]
          push_cast
          omega
theorem gm_s_tab {d lo hi : Int} {os : Array Int} {x : Int32} {r : List Value} {len : Nat} (hx : p.tables.exec = Jvm.exec) (hb : c.code = cc) (hd : decode cc pc = .ok (.tableswitch d lo hi os, len)) (hh : hi + 1 = lo + os.size) (hk : ∀ j : Nat, j < os.toList.length → (gm_lit (lo + j)).toInt = lo + j) (h0 : gm_tab pc d x (fun t => gm_G p l e R s m args below meth c Q dC dI cy A ad0 n0 nL t ls r h cl sl) lo os.toList) : gm_G p l e R s m args below meth c Q dC dI cy A ad0 n0 nL pc ls (.int x :: r) h cl sl := by
  rcases gm_tab_of hk h0 with ⟨j, o, t, h1, h2, h3, h4⟩ | ⟨h1, t, h2, h3⟩
  · have hj : j < os.toList.length := (List.getElem?_eq_some_iff.mp h2).1
    have hj2 : j < os.size := by simpa using hj
    refine gm_lift0 h4 fun _ _ _ _ _ k => lv_tableIn hx hb hd (by omega) (by omega) ?_ h3 k
    rw [h1, show (lo + (j : Int) - lo).toNat = j by omega]
    rw [← Array.getElem?_toList]
    exact h2
  · refine gm_lift0 h3 fun _ _ _ _ _ k => lv_tableOut hx hb hd ?_ h2 k
    by_cases hlo : x.toInt < lo
    · exact Or.inl hlo
    · refine Or.inr ?_
      rcases Int.lt_or_le hi x.toInt with hz | hz
      · exact hz
      · exfalso
        have := h1 (x.toInt - lo).toNat (by simp; omega)
        omega
theorem gm_s_getfield {F : List (Nat × Nat × Nat)} {own : String} (hx : p.tables.exec = Jvm.exec) (hb : c.code = cc) (hown : s.vm.findClass own = some m.cls) (hts : ∀ w ∈ gm_U, w.before args s = true) (hcu : ∀ (ci : Nat) (r : vw_C), vwCl[ci]? = some r → ∀ w ∈ u_ws r.1 r.2.1 r.2.2, w ∈ gm_U) (hK : va_K (dC, dI) vwCl (gm_tys cy) s)
    (hF : ∀ k f, gm_asc F k = some f → ∃ r : vw_C, vwCl[f.1]? = some r ∧ f.2 < r.2.2 ∧ Cond.fieldLink own k (r.2.1 f.2).1 (r.2.1 f.2).2.1 (r.2.1 f.2).2.2.1 ∈ gm_U)
    {k : Nat} (hd : decode cc pc = .ok (.getfield k, 3)) (h0 : gm_sa st fun a r => gm_op (gm_asc F k) fun f => gm_ob h a fun ci fs => gm_if (Nat.beq ci f.1) (gm_op (gm_nth fs f.2) fun v => gm_G p l e R s m args below meth c Q dC dI cy A ad0 n0 nL (pc + 3) ls (v :: r) h cl sl)) : gm_G p l e R s m args below meth c Q dC dI cy A ad0 n0 nL pc ls st h cl sl := by
  unfold gm_sa at h0
  split at h0
  · rename_i a r
    unfold gm_op at h0
    split at h0
    · rename_i f hf
      unfold gm_ob at h0
      split at h0
      · rename_i ci fs hcell
        obtain ⟨hci, h9⟩ := gm_if_of h0
        have hci := Nat.eq_of_beq_eq_true hci
        subst hci
        replace h0 := h9
        clear h9
        split at h0
        · rename_i v hv
          obtain ⟨r2, h1, h2, h3⟩ := hF k f hf
          refine gm_lift h0 fun ad H locs lsA hag hP hD hS hL kk => ?_
          refine va_get (D := (dC, dI)) (cl := vwCl) (tys := gm_tys cy) (C := r2.1) (T := r2.2.1) (N := r2.2.2) (Ts := gm_U) (ref := (r2.2.1 f.2).1) hx hb hts (hcu f.1 r2 h1) hown hK hP a (gm_W_at hcell) h1 f.2 h2 (hts _ h3) (fun _ z => z) (v := gm_v ad v) ?_ hd (kk lsA hL)
          rw [List.getElem?_map, ← gm_nth_some, hv]
          rfl
        · exact h0.elim
      · exact h0.elim
    · exact h0.elim
  · exact h0.elim
theorem gm_s_putfield {F : List (Nat × Nat × Nat)} {own : String} {v : Value} {a : Nat} {r : List Value} (hx : p.tables.exec = Jvm.exec) (hb : c.code = cc) (hown : s.vm.findClass own = some m.cls) (hts : ∀ w ∈ gm_U, w.before args s = true) (hcu : ∀ (ci : Nat) (r : vw_C), vwCl[ci]? = some r → ∀ w ∈ u_ws r.1 r.2.1 r.2.2, w ∈ gm_U) (hK : va_K (dC, dI) vwCl (gm_tys cy) s)
    (hF : ∀ k f, gm_asc F k = some f → ∃ r : vw_C, vwCl[f.1]? = some r ∧ f.2 < r.2.2 ∧ Cond.fieldLink own k (r.2.1 f.2).1 (r.2.1 f.2).2.1 (r.2.1 f.2).2.2.1 ∈ gm_U)
    {k : Nat} (hput : ∀ f r, gm_asc F k = some f → vwCl[f.1]? = some r → (r.2.1 f.2).2.2.2 = false ∨ ((r.2.1 f.2).2.2.2 = true ∧ meth.name = "<init>" ∧ (r.2.1 f.2).1 = own))
    (hd : decode cc pc = .ok (.putfield k, 3)) (h0 : gm_op (gm_asc F k) fun f => gm_ob h a fun ci fs => gm_op (gm_nth fs f.2) fun _ => gm_if (Nat.beq ci f.1) (gm_okx (gm_tyf f.1 f.2) v (gm_G p l e R s m args below meth c Q dC dI cy A ad0 n0 nL (pc + 3) ls r (gm_set h a (.inr (ci, gm_set fs f.2 v))) cl sl))) : gm_G p l e R s m args below meth c Q dC dI cy A ad0 n0 nL pc ls (v :: .ref a :: r) h cl sl := by
  unfold gm_op at h0
  split at h0
  · rename_i f hf
    unfold gm_ob at h0
    split at h0
    · rename_i ci fs hcell
      split at h0
      · rename_i v0 hv0
        obtain ⟨hci, h9⟩ := gm_if_of h0
        have hci := Nat.eq_of_beq_eq_true hci
        subst hci
        obtain ⟨hok, h8⟩ := gm_okx_of h9
        clear h0 h9
        have h0 := h8
        clear h8
        obtain ⟨r2, h1, h2, h3⟩ := hF k f hf
        refine ⟨h0.1, fun ad H locs lsA hag hP hD hS hL => ?_⟩
        have hl : f.2 < (fs.map (gm_v ad)).length := by
          rw [gm_nth_some] at hv0
          rw [List.length_map]
          exact (List.getElem?_eq_some_iff.mp hv0).1
        have hnf := gm_ok_nf ad hok
        have hcell2 : ∀ (H1 : Heap) (locs1 : List Loc), va_P (dC, dI) vwCl ((gm_W cy ad 0 h).set a (ad a, .inr (f.1, (fs.map (gm_v ad)).set f.2 (gm_v ad v)))) H1 → va_D A ((gm_W cy ad 0 h).set a (ad a, .inr (f.1, (fs.map (gm_v ad)).set f.2 (gm_v ad v)))) → va_S A s.heap H1 locs1 → W p l e R s m args below meth c H1 locs1 cl sl Q (F0 m (pc + 3) lsA (r.map (gm_v ad))) := by
          intro H1 locs1 hP1 hD1 hS1
          have he : (gm_W cy ad 0 h).set a (ad a, .inr (f.1, (fs.map (gm_v ad)).set f.2 (gm_v ad v))) = gm_W cy ad 0 (gm_set h a (.inr (f.1, gm_set fs f.2 v))) := by
            rw [← gm_W_up, gm_set_eq fs]
            simp [gm_e, List.map_set]
          rw [he] at hP1 hD1
          exact h0.2 ad H1 locs1 lsA hag.put hP1 hD1 hS1 hL
        rcases hput f r2 hf h1 with hfin | ⟨hfin, hin, hown2⟩
        · exact va_put (D := (dC, dI)) (cl := vwCl) (tys := gm_tys cy) (C := r2.1) (T := r2.2.1) (N := r2.2.2) (Ts := gm_U) (ref := (r2.2.1 f.2).1) hx hb hts (hcu f.1 r2 h1) (gm_tyf f.1) (gm_cl_ty f.1 r2 h1).1 (gm_cl_ty f.1 r2 h1).2 hown hK hP hD hS a (gm_W_at hcell) h1 f.2 h2 (hts _ h3) (fun _ z => z) hfin ((gm_cl_ty f.1 r2 h1).1 f.2 h2) hnf.1 hnf.2 hl hd hcell2
        · exact va_putF (D := (dC, dI)) (cl := vwCl) (tys := gm_tys cy) (C := r2.1) (T := r2.2.1) (N := r2.2.2) (Ts := gm_U) (ref := (r2.2.1 f.2).1) hx hb hts (hcu f.1 r2 h1) (gm_tyf f.1) (gm_cl_ty f.1 r2 h1).1 (gm_cl_ty f.1 r2 h1).2 hown hK hP hD hS a (gm_W_at hcell) h1 f.2 h2 (hts _ h3) (fun _ z => z) hfin hin hown2 ((gm_cl_ty f.1 r2 h1).1 f.2 h2) hnf.1 hnf.2 hl hd hcell2
      · exact h0.elim
    · exact h0.elim
  · exact h0.elim
theorem gm_ai_of {a t : Nat} {f : Nat → (Nat → Int32) → Prop} (h0 : gm_ai h a t f) : ∃ N g, gm_nth h a = some (.inl (t, N, .inl g)) ∧ f N g := by
  unfold gm_ai at h0
  split at h0
  · rename_i k N g hq
    cases hk : Nat.beq k t with
    | true =>
      rw [hk] at h0
      rw [Nat.eq_of_beq_eq_true hk] at hq
      exact ⟨N, g, hq, h0⟩
    | false =>
      rw [hk] at h0
      exact h0.elim
  · exact h0.elim
theorem gm_d1_of {f : UInt64 → List Value → Prop} (h0 : gm_d1 st f) : ∃ x r, st = .double x :: r ∧ f x r := by
  unfold gm_d1 at h0
  split at h0
  · exact ⟨_, _, rfl, h0⟩
  · exact h0.elim
theorem gm_sa_of {f : Nat → List Value → Prop} (h0 : gm_sa st f) : ∃ x r, st = .ref x :: r ∧ f x r := by
  unfold gm_sa at h0
  split at h0
  · exact ⟨_, _, rfl, h0⟩
  · exact h0.elim
theorem gm_op_of {α : Type} {o : Option α} {f : α → Prop} (h0 : gm_op o f) : ∃ a, o = some a ∧ f a := by
  unfold gm_op at h0
  split at h0
  · exact ⟨_, rfl, h0⟩
  · exact h0.elim

theorem gm_s_caload (hx : p.tables.exec = Jvm.exec) (hb : c.code = cc) (hK : va_K (dC, dI) vwCl (gm_tys cy) s) (hd : decode cc pc = .ok (.caload, 1)) (h0 : gm_i1 st fun x r => gm_sa r fun a r => gm_ai h a 1 fun N f => vp_in x N ∧ gm_G p l e R s m args below meth c Q dC dI cy A ad0 n0 nL (pc + 1) ls (.int (f x.toNatClampNeg) :: r) h cl sl) : gm_G p l e R s m args below meth c Q dC dI cy A ad0 n0 nL pc ls st h cl sl := by
  obtain ⟨x, r, rfl, h0⟩ := gm_i1_of h0
  obtain ⟨a, r, rfl, h0⟩ := gm_sa_of h0
  obtain ⟨N, f, hq, hin, h0⟩ := gm_ai_of h0
  exact gm_lift h0 fun ad H locs lsA hag hP hD hS hL kk => va_cald (D := (dC, dI)) (cl := vwCl) (tys := gm_tys cy) hx hb hK hP a 1 (gm_W_at hq) rfl hin hd (kk lsA hL)

theorem gm_ab_of {a : Nat} {f : Nat → Nat → (Nat → Int32) → Prop} (h0 : gm_ab h a f) : ∃ k N g, (k = 2 ∨ k = 3) ∧ gm_nth h a = some (.inl (k, N, .inl g)) ∧ f k N g := by
  unfold gm_ab at h0
  split at h0
  · rename_i k n r hq
    cases hb : Nat.beq k 2 with
    | true =>
      rw [hb] at h0
      have e := Nat.eq_of_beq_eq_true hb
      subst e
      exact ⟨2, n, r, Or.inl rfl, hq, h0⟩
    | false =>
      rw [hb] at h0
      cases hb3 : Nat.beq k 3 with
      | true =>
        rw [hb3] at h0
        have e := Nat.eq_of_beq_eq_true hb3
        subst e
        exact ⟨3, n, r, Or.inr rfl, hq, h0⟩
      | false => rw [hb3] at h0; exact h0.elim
  · exact h0.elim
theorem gm_s_baload (hx : p.tables.exec = Jvm.exec) (hb : c.code = cc) (hK : va_K (dC, dI) vwCl (gm_tys cy) s) (hd : decode cc pc = .ok (.baload, 1)) (h0 : gm_i1 st fun x r => gm_sa r fun a r => gm_ab h a fun _ N f => vp_in x N ∧ gm_G p l e R s m args below meth c Q dC dI cy A ad0 n0 nL (pc + 1) ls (.int (f x.toNatClampNeg) :: r) h cl sl) : gm_G p l e R s m args below meth c Q dC dI cy A ad0 n0 nL pc ls st h cl sl := by
  obtain ⟨x, r, rfl, h0⟩ := gm_i1_of h0
  obtain ⟨a, r, rfl, h0⟩ := gm_sa_of h0
  obtain ⟨k, N, f, hk, hq, hin, h0⟩ := gm_ab_of h0
  rcases hk with rfl | rfl
  · exact gm_lift h0 fun ad H locs lsA hag hP hD hS hL kk => va_zald (D := (dC, dI)) (cl := vwCl) (tys := gm_tys cy) hx hb hK hP a 2 (gm_W_at hq) rfl hin hd (kk lsA hL)
  · exact gm_lift h0 fun ad H locs lsA hag hP hD hS hL kk => va_bald (D := (dC, dI)) (cl := vwCl) (tys := gm_tys cy) hx hb hK hP a 3 (gm_W_at hq) rfl hin hd (kk lsA hL)

theorem gm_s_iaload {sq : pQ} (hx : p.tables.exec = Jvm.exec) (hb : c.code = cc) (hK : va_K (dC, dI) vwCl (gm_tys cy) s) (hscr : ∀ q, sq = some q → va_X (ad0 88888) q.1 q.2 s s.heap ∧ ad0 88888 < s.heap.size ∧ ¬ A (ad0 88888)) (hd : decode cc pc = .ok (.iaload, 1)) (h0 : gm_i1 st fun x r => gm_sa r fun a r => bif Nat.beq a 88888 then gm_op sq (fun q => vp_in x q.1 ∧ gm_G p l e R s m args below meth c Q dC dI cy A ad0 n0 nL (pc + 1) ls (.int (q.2 x.toNatClampNeg) :: r) h cl sl) else gm_ai h a 0 fun N f => vp_in x N ∧ gm_G p l e R s m args below meth c Q dC dI cy A ad0 n0 nL (pc + 1) ls (.int (f x.toNatClampNeg) :: r) h cl sl) : gm_G p l e R s m args below meth c Q dC dI cy A ad0 n0 nL pc ls st h cl sl := by
  obtain ⟨x, r, rfl, h1⟩ := gm_i1_of h0
  obtain ⟨a, r, rfl, h2⟩ := gm_sa_of h1
  try dsimp only at h2
  clear h0 h1
  cases hk : Nat.beq a 88888 with
  | true =>
    rw [hk] at h2
    have ha := Nat.eq_of_beq_eq_true hk
    subst ha
    obtain ⟨q, hq, hin, h0⟩ := gm_op_of h2
    obtain ⟨z1, z2, z3⟩ := hscr q hq
    refine gm_lift h0 fun ad H locs lsA hag hP hD hS hL kk => ?_
    have h4 : gm_v ad (.ref 88888) = .ref (ad0 88888) := by
      show Value.ref (ad 88888) = _
      rw [hag.2.2.2]
    simp only [List.map_cons, h4]
    exact va_sld hx hb z1 z2 z3 hS hin hd (kk lsA hL)
  | false =>
    rw [hk] at h2
    obtain ⟨N, f, hq, hin, h0⟩ := gm_ai_of h2
    exact gm_lift h0 fun ad H locs lsA hag hP hD hS hL kk => va_iald (D := (dC, dI)) (cl := vwCl) (tys := gm_tys cy) hx hb hK hP a 0 (gm_W_at hq) rfl hin hd (kk lsA hL)
theorem gm_s_arraylength {sq : pQ} (hx : p.tables.exec = Jvm.exec) (hb : c.code = cc) (hscr : ∀ q, sq = some q → va_X (ad0 88888) q.1 q.2 s s.heap ∧ ad0 88888 < s.heap.size ∧ ¬ A (ad0 88888)) (hd : decode cc pc = .ok (.arraylength, 1)) (h0 : gm_sa st fun a r => bif Nat.beq a 88888 then gm_op sq (fun q => gm_G p l e R s m args below meth c Q dC dI cy A ad0 n0 nL (pc + 1) ls (.int (Int32.ofNat q.1) :: r) h cl sl) else False) : gm_G p l e R s m args below meth c Q dC dI cy A ad0 n0 nL pc ls st h cl sl := by
  obtain ⟨a, r, rfl, h2⟩ := gm_sa_of h0
  try dsimp only at h2
  clear h0
  cases hk : Nat.beq a 88888 with
  | true =>
    rw [hk] at h2
    have ha := Nat.eq_of_beq_eq_true hk
    subst ha
    obtain ⟨q, hq, h0⟩ := gm_op_of h2
    obtain ⟨z1, z2, z3⟩ := hscr q hq
    refine gm_lift h0 fun ad H locs lsA hag hP hD hS hL kk => ?_
    have h4 : gm_v ad (.ref 88888) = .ref (ad0 88888) := by
      show Value.ref (ad 88888) = _
      rw [hag.2.2.2]
    simp only [List.map_cons, h4]
    exact va_slen hx hb z1 z2 z3 hS hd (kk lsA hL)
  | false =>
    rw [hk] at h2
    exact h2.elim

theorem gm_s_iastore (hx : p.tables.exec = Jvm.exec) (hb : c.code = cc) (hK : va_K (dC, dI) vwCl (gm_tys cy) s) (hd : decode cc pc = .ok (.iastore, 1)) (h0 : gm_i2 st fun x y r => gm_sa r fun a r => gm_ai h a 0 fun N f => vp_in x N ∧ gm_G p l e R s m args below meth c Q dC dI cy A ad0 n0 nL (pc + 1) ls r (gm_set h a (.inl (0, N, .inl (upd f x.toNatClampNeg y)))) cl sl) : gm_G p l e R s m args below meth c Q dC dI cy A ad0 n0 nL pc ls st h cl sl := by
  obtain ⟨x, y, r, rfl, h0⟩ := gm_i2_of h0
  obtain ⟨a, r, rfl, h0⟩ := gm_sa_of h0
  obtain ⟨N, f, hq, hin, h0⟩ := gm_ai_of h0
  exact ⟨h0.1, fun ad H locs lsA hag hP hD hS hL => va_iast (D := (dC, dI)) (cl := vwCl) (tys := gm_tys cy) hx hb hK hP hD hS a 0 (gm_W_at hq) rfl hin hd (fun H1 locs1 hP1 hD1 hS1 => by exact h0.2 ad H1 locs1 lsA hag.put (gm_W_up (e := .inl (0, N, .inl (upd f x.toNatClampNeg y))) ▸ hP1) (gm_W_up (e := .inl (0, N, .inl (upd f x.toNatClampNeg y))) ▸ hD1) hS1 hL)⟩

theorem gm_s_castore (hx : p.tables.exec = Jvm.exec) (hb : c.code = cc) (hK : va_K (dC, dI) vwCl (gm_tys cy) s) (hd : decode cc pc = .ok (.castore, 1)) (h0 : gm_i2 st fun x y r => gm_sa r fun a r => gm_ai h a 1 fun N f => vp_in x N ∧ (0 ≤ y ∧ y ≤ 65535) ∧ gm_G p l e R s m args below meth c Q dC dI cy A ad0 n0 nL (pc + 1) ls r (gm_set h a (.inl (1, N, .inl (upd f x.toNatClampNeg y)))) cl sl) : gm_G p l e R s m args below meth c Q dC dI cy A ad0 n0 nL pc ls st h cl sl := by
  obtain ⟨x, y, r, rfl, h0⟩ := gm_i2_of h0
  obtain ⟨a, r, rfl, h0⟩ := gm_sa_of h0
  obtain ⟨N, f, hq, hin, hy, h0⟩ := gm_ai_of h0
  have hn : vp_nar .char y = y := by
    have := (gm_ok_nf (fun z => z) (ty := .char) (v := .int y) hy).1
    unfold vp_nar
    rw [show narrow .char (.int y) = .int y from this]
  exact ⟨h0.1, fun ad H locs lsA hag hP hD hS hL => va_cast (D := (dC, dI)) (cl := vwCl) (tys := gm_tys cy) hx hb hK hP hD hS a 1 (gm_W_at hq) rfl hin hd (fun H1 locs1 hP1 hD1 hS1 => by rw [hn] at hP1 hD1; exact h0.2 ad H1 locs1 lsA hag.put (gm_W_up (e := .inl (1, N, .inl (upd f x.toNatClampNeg y))) ▸ hP1) (gm_W_up (e := .inl (1, N, .inl (upd f x.toNatClampNeg y))) ▸ hD1) hS1 hL)⟩

theorem gm_s_bastore (hx : p.tables.exec = Jvm.exec) (hb : c.code = cc) (hK : va_K (dC, dI) vwCl (gm_tys cy) s) (hd : decode cc pc = .ok (.bastore, 1)) (h0 : gm_i2 st fun x y r => gm_sa r fun a r => gm_ab h a fun k N f => vp_in x N ∧ gm_bst k y (gm_G p l e R s m args below meth c Q dC dI cy A ad0 n0 nL (pc + 1) ls r (gm_set h a (.inl (k, N, .inl (upd f x.toNatClampNeg y)))) cl sl)) : gm_G p l e R s m args below meth c Q dC dI cy A ad0 n0 nL pc ls st h cl sl := by
  obtain ⟨x, y, r, rfl, h0⟩ := gm_i2_of h0
  obtain ⟨a, r, rfl, h0⟩ := gm_sa_of h0
  obtain ⟨k, N, f, hk, hq, hin, h0⟩ := gm_ab_of h0
  rcases hk with rfl | rfl
  · obtain ⟨hy, h0⟩ : (y = 0 ∨ y = 1) ∧ _ := h0
    have hn : vp_nar .boolean y = y := by
      have := (gm_ok_nf (fun z => z) (ty := .boolean) (v := .int y) hy).1
      unfold vp_nar
      rw [show narrow .boolean (.int y) = .int y from this]
    exact ⟨h0.1, fun ad H locs lsA hag hP hD hS hL => va_zast (D := (dC, dI)) (cl := vwCl) (tys := gm_tys cy) hx hb hK hP hD hS a 2 (gm_W_at hq) rfl hin hd (fun H1 locs1 hP1 hD1 hS1 => by rw [hn] at hP1 hD1; exact h0.2 ad H1 locs1 lsA hag.put (gm_W_up (e := .inl (2, N, .inl (upd f x.toNatClampNeg y))) ▸ hP1) (gm_W_up (e := .inl (2, N, .inl (upd f x.toNatClampNeg y))) ▸ hD1) hS1 hL)⟩
  · obtain ⟨hy, h0⟩ : (-128 ≤ y ∧ y ≤ 127) ∧ _ := h0
    have hn : vp_nar .byte y = y := by
      have := (gm_ok_nf (fun z => z) (ty := .byte) (v := .int y) hy).1
      unfold vp_nar
      rw [show narrow .byte (.int y) = .int y from this]
    exact ⟨h0.1, fun ad H locs lsA hag hP hD hS hL => va_bast (D := (dC, dI)) (cl := vwCl) (tys := gm_tys cy) hx hb hK hP hD hS a 3 (gm_W_at hq) rfl hin hd (fun H1 locs1 hP1 hD1 hS1 => by rw [hn] at hP1 hD1; exact h0.2 ad H1 locs1 lsA hag.put (gm_W_up (e := .inl (3, N, .inl (upd f x.toNatClampNeg y))) ▸ hP1) (gm_W_up (e := .inl (3, N, .inl (upd f x.toNatClampNeg y))) ▸ hD1) hS1 hL)⟩

end GM
