/-! THE REFERENCE'S FACE: what is left of it -/
theorem bcF_64 (x : Int32) : ∃ k, k < 64 ∧ bcF x = nI k := by
  unfold bcF
  rw [Int32.and_comm]
  rw [show (63 : Int32) = nI 63 from rfl, nI_and]
  exact ⟨_, Nat.lt_of_le_of_lt Nat.and_le_left (by decide), rfl⟩
def dnV (x : Int32) : UInt32 := FP.fdiv (FP.i2f (bcF x)) 1098907648
theorem dn_ok : ∀ k, k < 64 → (FP.fdiv (FP.i2f (nI k)) 1098907648) &&& 0x7fffffff ≤ 0x7f800000 ∧ (FP.f2d (FP.fdiv (FP.i2f (nI k)) 1098907648)) &&& 0x7fffffffffffffff ≤ 0x7ff0000000000000 ∧ Op.cmpValue (FP.dcmp (FP.f2d (FP.fdiv (FP.i2f (nI k)) 1098907648)) (FP.f2d (FP.fdiv (FP.i2f (nI k)) 1098907648))) .l = 0 := by decide +kernel
theorem dnV_ok (x : Int32) : vf_n32 (dnV x) ∧ vf_n64 (FP.f2d (dnV x)) ∧ Op.cmpValue (FP.dcmp (FP.f2d (dnV x)) (FP.f2d (dnV x))) .l = 0 := by
  obtain ⟨k, hk, e⟩ := bcF_64 x
  unfold dnV
  rw [e]
  exact dn_ok k hk

theorem gKz.at {A A' : Nat → Nat → Int32} {F F' : Nat → Int32} (k : gKz A F A' F') : mD A' = mD A ∧ mP A' = mP A ∧ mG A' F' = mG A F ∧ F' 27 = F 27 ∧ F' 28 = F 28 ∧ F' 29 = F 29 ∧ F' 22 = F 22 ∧ A' 31 = A 31 ∧ A' 32 = A 32 := by
  have e29 := k.1 29 (by decide)
  have e30 := k.1 30 (by decide)
  have e31 := k.1 31 (by decide)
  have e32 := k.1 32 (by decide)
  have f22 := k.2 22 (by decide) (by decide) (by decide) (by decide) (by decide)
  have f27 := k.2 27 (by decide) (by decide) (by decide) (by decide) (by decide)
  have f28 := k.2 28 (by decide) (by decide) (by decide) (by decide) (by decide)
  have f29 := k.2 29 (by decide) (by decide) (by decide) (by decide) (by decide)
  refine ⟨?_, ?_, ?_, f27, f28, f29, f22, e31, e32⟩
  · funext j; unfold mD; rw [e30]
  · funext j; unfold mP; rw [e29, e30, e31, e32]
  · unfold mG; rw [e29, f27, f28, f29]
section X
variable {nw nx : Nat} {LO : Nat → Int64} {DO : Nat → UInt64} {d n : Nat} {A : Nat → Nat → Int32} {F : Nat → Int32} {rows : List (Int32 × Int32 × Int32)} {sp : Nat → List Int32} {M : Nat → Int32} {W : Int32}
theorem gKz.ok {A' : Nat → Nat → Int32} {F' : Nat → Int32} (k : gKz A F A' F') (h : mOk A n) (hF : F 22 = nI n) (hg : gOk F) : mOk A' n ∧ F' 22 = nI n ∧ gOk F' := by
  obtain ⟨-, -, -, -, e28, e29, e22, e31, e32⟩ := k.at
  refine ⟨⟨h.1, fun j hj => ?_⟩, by rw [e22]; exact hF, ?_⟩
  · rw [e31, e32]; exact h.2 j hj
  · unfold gOk
    rw [e28, e29]
    exact hg
theorem m_elements1 (h : mOk A n) (hF : F 22 = nI n) (hg : gOk F) (h1 : F 23 = 1) (hq : spQ (rPl A F n) (rWd A F n) M W) : ∃ A' F', gKz A F A' F' ∧ (mFo A F n = true → F' 20 = 2 ∧ gm_Sp gm_MT (d + 10) 8070 [.ref 24] (gw A F nw nx LO DO) (.inl (some (.int 0))) (gw A' F' nw nx LO DO) 0 0) ∧ (mFo A F n = false → F' 20 = 0 ∧ gm_Sp gm_MT (d + 10) 8070 [.ref 24] (gw A F nw nx LO DO) (.inl (some (.int (nI (fN M 16 W))))) (gw A' F' nw nx LO DO) 0 0) := by
  obtain ⟨A1, F1, k1, t1, c1⟩ := s_noCounter1 (nw := nw) (nx := nx) (LO := LO) (DO := DO) (d := d + 3) h hF hg h1
  cases hm : mFo A F n with
  | true =>
    rw [hm] at t1 c1
    refine ⟨A1, F1, k1, fun _ => ⟨by rw [t1]; rfl, gm_mk gm_mX7_elements rfl ⟨Or.inr rfl, rfl, rfl, trivial⟩ (fun G X hC hX => ?_)⟩, fun z => (by cases z)⟩
    refine gm_runs hC [] 200 _ _ _ _ _ _ ?_
    exact Or.inl ⟨_, _, _, _, c1, gx_f (show ¬ (1 : Int32) = 0 from by decide) hX⟩
  | false =>
    rw [hm] at t1 c1
    obtain ⟨o1, o2, o3⟩ := k1.ok h hF hg
    obtain ⟨ed, ep, eg, e27, e28, e29, e22, e31, e32⟩ := k1.at
    have ein : mInn A1 F1 n = mInn A F n := by unfold mInn mAl; rw [ed, ep, eg, e27]
    have hq1 : spQ (rPl A1 F1 n) (rWd A1 F1 n) M W := by
      have e1 : rPl A1 F1 n = rPl A F n := by funext j; unfold rPl rRw; rw [ein, eg, ep]
      have e2 : rWd A1 F1 n = rWd A F n := by funext j; unfold rWd; rw [ed, e27]
      rw [e1, e2]; exact hq
    have hf1 : mFo A1 F1 n = false := by
      have : mFo A1 F1 n = mFo A F n := by unfold mFo mDl; rw [ein, ed, ep, eg, e27]
      rw [this]; exact hm
    obtain ⟨f, g, -, -, l1⟩ := s_least (nw := nw) (nx := nx) (LO := LO) (DO := DO) (d := d) o1 o2 o3 hq1 hf1
    refine ⟨va_up (va_up A1 36 f) 35 g, va_up F1 26 (nI (mDl A1 F1 n).length), k1.trans ⟨fun j hj => by rw [g_upn (by omega), g_upn (by omega)], fun j a b c e f => g_upn e⟩, fun z => (by cases z), fun _ => ⟨by rw [g_upn (by decide), t1]; rfl, gm_mk gm_mX7_elements rfl ⟨Or.inr rfl, rfl, rfl, trivial⟩ (fun G X hC hX => ?_)⟩⟩
    refine gm_runs hC [] 200 _ _ _ _ _ _ ?_
    exact Or.inl ⟨_, _, _, _, c1, gx_t (show (0 : Int32) = 0 from rfl) (Or.inl ⟨_, _, _, _, l1, hX⟩)⟩
theorem m_elementsBy {v : Int32} {h1 : pH} (h : gm_Sp gm_MT d 8070 [.ref 24] (gw A F nw nx LO DO) (.inl (some (.int v))) h1 0 0) (hl : (gw A F nw nx LO DO).length = h1.length) : gm_Sp gm_MT (d + 1) 8071 [.ref 24] (gw A F nw nx LO DO) (.inl (some (.int v))) h1 0 0 := by
  refine gm_mk gm_mX7_elementsByTrying rfl ⟨Or.inr hl.symm, rfl, rfl, trivial⟩ (fun G X hC hX => ?_)
  refine gm_runs hC [] 200 _ _ _ _ _ _ ?_
  exact Or.inl ⟨_, _, _, _, h, hX⟩
theorem m_elements_n (h0 : F 23 = 0) : gm_Sp gm_MT (d + 3) 8070 [.ref 24] (gw A F nw nx LO DO) (.inl (some (.int 0))) (gw A (va_up F 20 1) nw nx LO DO) 0 0 := by
  have c1 := s_noCounter2 (A := A) (nw := nw) (nx := nx) (LO := LO) (DO := DO) (d := d) h0
  refine gm_mk gm_mX7_elements rfl ⟨Or.inr rfl, rfl, rfl, trivial⟩ (fun G X hC hX => ?_)
  refine gm_runs hC [] 200 _ _ _ _ _ _ ?_
  exact Or.inl ⟨_, _, _, _, c1, gx_f (show ¬ (1 : Int32) = 0 from by decide) hX⟩
theorem m_region_n {x : Int32} (h0 : F 23 = 0) : gm_Sp gm_MT (d + 3) 8072 [.ref 24, .int x] (gw A F nw nx LO DO) (.inl (some (.int 0))) (gw A (va_up F 20 1) nw nx LO DO) 0 0 := by
  have c1 := s_noCounter2 (A := A) (nw := nw) (nx := nx) (LO := LO) (DO := DO) (d := d) h0
  refine gm_mk gm_mX7_region rfl ⟨Or.inr rfl, rfl, rfl, trivial⟩ (fun G X hC hX => ?_)
  refine gm_runs hC [] 200 _ _ _ _ _ _ ?_
  exact Or.inl ⟨_, _, _, _, c1, gx_f (show ¬ (1 : Int32) = 0 from by decide) hX⟩
theorem m_region1 (h : mOk A n) (hF : F 22 = nI n) (hg : gOk F) (h1 : F 23 = 1) (hq : spQ (rPl A F n) (rWd A F n) M W) (x : Int32) : ∃ A' F', gKz A F A' F' ∧ (mFo A F n = true → F' 20 = 2 ∧ gm_Sp gm_MT (d + 10) 8072 [.ref 24, .int x] (gw A F nw nx LO DO) (.inl (some (.int 0))) (gw A' F' nw nx LO DO) 0 0) ∧ (mFo A F n = false → (∀ r, rNth (pkL M 16 W) x 0 = some r → F' 20 = 0 ∧ gm_Sp gm_MT (d + 10) 8072 [.ref 24, .int x] (gw A F nw nx LO DO) (.inl (some (.int (nI r)))) (gw A' F' nw nx LO DO) 0 0) ∧ (rNth (pkL M 16 W) x 0 = none → F' 20 = 2 ∧ gm_Sp gm_MT (d + 10) 8072 [.ref 24, .int x] (gw A F nw nx LO DO) (.inl (some (.int 0))) (gw A' F' nw nx LO DO) 0 0)) := by
  obtain ⟨A1, F1, k1, t1, c1⟩ := s_noCounter1 (nw := nw) (nx := nx) (LO := LO) (DO := DO) (d := d + 3) h hF hg h1
  cases hm : mFo A F n with
  | true =>
    rw [hm] at t1 c1
    refine ⟨A1, F1, k1, fun _ => ⟨by rw [t1]; rfl, gm_mk gm_mX7_region rfl ⟨Or.inr rfl, rfl, rfl, trivial⟩ (fun G X hC hX => ?_)⟩, fun z => (by cases z)⟩
    refine gm_runs hC [] 200 _ _ _ _ _ _ ?_
    exact Or.inl ⟨_, _, _, _, c1, gx_f (show ¬ (1 : Int32) = 0 from by decide) hX⟩
  | false =>
    rw [hm] at t1 c1
    obtain ⟨o1, o2, o3⟩ := k1.ok h hF hg
    obtain ⟨ed, ep, eg, e27, e28, e29, e22, e31, e32⟩ := k1.at
    have ein : mInn A1 F1 n = mInn A F n := by unfold mInn mAl; rw [ed, ep, eg, e27]
    have hq1 : spQ (rPl A1 F1 n) (rWd A1 F1 n) M W := by
      have e1 : rPl A1 F1 n = rPl A F n := by funext j; unfold rPl rRw; rw [ein, eg, ep]
      have e2 : rWd A1 F1 n = rWd A F n := by funext j; unfold rWd; rw [ed, e27]
      rw [e1, e2]; exact hq
    have hf1 : mFo A1 F1 n = false := by
      have : mFo A1 F1 n = mFo A F n := by unfold mFo mDl; rw [ein, ed, ep, eg, e27]
      rw [this]; exact hm
    have h7 := r_few o1.1 hq1 hf1
    obtain ⟨f, g, g1, g2, l1⟩ := s_least (nw := nw) (nx := nx) (LO := LO) (DO := DO) (d := d) o1 o2 o3 hq1 hf1
    generalize hA2 : va_up (va_up A1 36 f) 35 g = A2 at l1
    have e35 : A2 35 = g := by rw [← hA2]; exact g_upe
    generalize hF2 : va_up F1 26 (nI (mDl A1 F1 n).length) = F2 at l1
    have k2 : gKz A F A2 F2 := by
      rw [← hA2, ← hF2]
      exact k1.trans ⟨fun j hj => by rw [g_upn (by omega), g_upn (by omega)], fun j a b c e f => g_upn e⟩
    have t2 : F2 20 = 0 := by rw [← hF2, g_upn (by decide), t1]; rfl
    have hi := s_isIn3 (A := A2) (F := F2) (nw := nw) (nx := nx) (LO := LO) (DO := DO) (d := d + 8) x 0 (nI (fN M 16 W) - 1)
    have hfl := s_fail (A := A2) (F := F2) (nw := nw) (nx := nx) (LO := LO) (DO := DO) (d := d + 8) 2
    rcases gT_cases x (n := fN M 16 W) (by omega) with ⟨t, ht, rfl, -⟩ | ⟨hgx, -⟩
    · rw [gIn_t ht (by omega)] at hi
      have kt := nI_clamp (n := t) (by omega)
      have ern := rNth_some (pkL M 16 W) 0 t (by omega) (by omega)
      rw [Nat.zero_add] at ern
      have ern : rNth (pkL M 16 W) (nI t) 0 = (pkL M 16 W)[t]? := ern
      refine ⟨A2, F2, k2, fun z => (by cases z), fun _ => ⟨fun r hr => ⟨t2, gm_mk gm_mX7_region rfl ⟨Or.inr rfl, rfl, rfl, trivial⟩ (fun G X hC hX => ?_)⟩, fun hr => ?_⟩⟩
      · rw [ern] at hr
        have hgt := g1 t r hr
        refine gm_runs hC [] 200 _ _ _ _ _ _ ?_
        refine Or.inl ⟨_, _, _, _, c1, gx_t (show (0 : Int32) = 0 from rfl) (Or.inl ⟨_, _, _, _, l1, Or.inl ⟨_, _, _, _, hi, gx_t (show ¬ (1 : Int32) = 0 from by decide) (And.intro (nI_in (by omega) (by decide)) ?_)⟩⟩)⟩
        rw [kt, e35, hgt]
        exact hX
      · rw [ern, List.getElem?_eq_getElem (by omega)] at hr
        cases hr
    · rw [gIn_f (by omega) hgx] at hi
      have ern : rNth (pkL M 16 W) x 0 = none := rNth_none (pkL M 16 W) 0 x (fun t ht e => by
        rw [Nat.zero_add] at e
        rw [e, gT_nI (by omega) (by omega)] at hgx
        cases hgx)
      refine ⟨A2, va_up F2 20 2, k2.trans (gKz.th A2 F2 2), fun z => (by cases z), fun _ => ⟨fun r hr => (by rw [ern] at hr; cases hr), fun _ => ⟨g_upe, gm_mk gm_mX7_region rfl ⟨Or.inr rfl, rfl, rfl, trivial⟩ (fun G X hC hX => ?_)⟩⟩⟩
      refine gm_runs hC [] 200 _ _ _ _ _ _ ?_
      exact Or.inl ⟨_, _, _, _, c1, gx_t (show (0 : Int32) = 0 from rfl) (Or.inl ⟨_, _, _, _, l1, Or.inl ⟨_, _, _, _, hi, gx_f (show ¬ ¬ (0 : Int32) = 0 from fun z => z rfl) (Or.inl ⟨_, _, _, _, hfl, hX⟩)⟩⟩)⟩
theorem m_models1 (h : mOk A n) (hF : F 22 = nI n) {e : Nat} (he : e < 7) : ∃ f', gm_Sp gm_MT (d + 5) 8075 [.ref 24, .int (nI e)] (gw A F nw nx LO DO) (.inl (some (.long (rS (mL (mD A) (mP A) n 0) (mAl A n) e)))) (gw (va_up A 36 f') (va_up F 20 0) nw nx LO DO) 0 0 := by
  have hi := s_isIn3 (A := A) (F := F) (nw := nw) (nx := nx) (LO := LO) (DO := DO) (d := d + 3) (nI e) 0 6
  rw [show gIn (nI e) 0 6 = true from (gIn_iff (x := nI e) (n := 6) (by decide)).mpr ⟨e, he, rfl⟩] at hi
  obtain ⟨f', hw⟩ := s_ways (F := va_up F 20 0) (nw := nw) (nx := nx) (LO := LO) (DO := DO) (d := d) h (h.th hF) (e := e) (by omega)
  refine ⟨f', gm_mk gm_mX7_models rfl ⟨Or.inr rfl, rfl, rfl, trivial⟩ (fun G X hC hX => ?_)⟩
  unfold rS at hX
  refine gm_runs hC [] 200 _ _ _ _ _ _ ?_
  exact Or.inl ⟨_, _, _, _, hi, gx_f (show ¬ (1 : Int32) = 0 from by decide) (gx_f (show ¬ ¬ (0 : Int32) = 0 from fun z => z rfl) (Or.inl ⟨_, _, _, _, hw, hX⟩))⟩
theorem m_models2 {x : Int32} (hx : gIn x 0 6 = false) : gm_Sp gm_MT (d + 5) 8075 [.ref 24, .int x] (gw A F nw nx LO DO) (.inl (some (.long 0))) (gw A (va_up F 20 1) nw nx LO DO) 0 0 := by
  have hi := s_isIn3 (A := A) (F := F) (nw := nw) (nx := nx) (LO := LO) (DO := DO) (d := d + 3) x 0 6
  rw [hx] at hi
  refine gm_mk gm_mX7_models rfl ⟨Or.inr rfl, rfl, rfl, trivial⟩ (fun G X hC hX => ?_)
  refine gm_runs hC [] 200 _ _ _ _ _ _ ?_
  exact Or.inl ⟨_, _, _, _, hi, gx_t (show (0 : Int32) = 0 from rfl) (gx_t (show ¬ (1 : Int32) = 0 from by decide) hX)⟩
theorem m_modelsByTrying1 (h : mOk A n) (hF : F 22 = nI n) {e : Nat} (he : e < 4) : ∃ f', gm_Sp gm_MT (d + 5) 8076 [.ref 24, .int (nI e)] (gw A F nw nx LO DO) (.inl (some (.long (rS (mL (mD A) (mP A) n 0) (mAl A n) e)))) (gw (va_up A 36 f') (va_up F 20 0) nw nx LO DO) 0 0 := by
  have hi := s_isIn3 (A := A) (F := F) (nw := nw) (nx := nx) (LO := LO) (DO := DO) (d := d + 3) (nI e) 0 3
  rw [show gIn (nI e) 0 3 = true from (gIn_iff (x := nI e) (n := 3) (by decide)).mpr ⟨e, he, rfl⟩] at hi
  obtain ⟨f', hw⟩ := s_ways (F := va_up F 20 0) (nw := nw) (nx := nx) (LO := LO) (DO := DO) (d := d) h (h.th hF) (e := e) (by omega)
  refine ⟨f', gm_mk gm_mX7_modelsByTrying rfl ⟨Or.inr rfl, rfl, rfl, trivial⟩ (fun G X hC hX => ?_)⟩
  unfold rS at hX
  refine gm_runs hC [] 200 _ _ _ _ _ _ ?_
  exact Or.inl ⟨_, _, _, _, hi, gx_f (show ¬ (1 : Int32) = 0 from by decide) (gx_f (show ¬ ¬ (0 : Int32) = 0 from fun z => z rfl) (Or.inl ⟨_, _, _, _, hw, hX⟩))⟩
theorem m_modelsByTrying2 {x : Int32} (hx : gIn x 0 3 = false) : gm_Sp gm_MT (d + 5) 8076 [.ref 24, .int x] (gw A F nw nx LO DO) (.inl (some (.long 0))) (gw A (va_up F 20 1) nw nx LO DO) 0 0 := by
  have hi := s_isIn3 (A := A) (F := F) (nw := nw) (nx := nx) (LO := LO) (DO := DO) (d := d + 3) x 0 3
  rw [hx] at hi
  refine gm_mk gm_mX7_modelsByTrying rfl ⟨Or.inr rfl, rfl, rfl, trivial⟩ (fun G X hC hX => ?_)
  refine gm_runs hC [] 200 _ _ _ _ _ _ ?_
  exact Or.inl ⟨_, _, _, _, hi, gx_t (show (0 : Int32) = 0 from rfl) (gx_t (show ¬ (1 : Int32) = 0 from by decide) hX)⟩
theorem f_density (hR : gRp A rows sp) (hF : F 0 = nI rows.length) {t : Nat} (ht : t < rows.length) : gm_Sp gm_MT (d + 3) 7050 [.ref 0, .int (nI t)] (gw A F nw nx LO DO) (.inl (some (.float (dnV (A 6 t))))) (gw A F nw nx LO DO) 0 0 := by
  have hc := s_checkTerm1 (A := A) (F := F) (nw := nw) (nx := nx) (LO := LO) (DO := DO) (d := d) hR.1.1 hF ht
  have hv := s_coverOf (A := A) (F := F) (nw := nw) (nx := nx) (LO := LO) (DO := DO) (d := d) (nI t) hR.1.1 hF
  rw [gT_nI ht hR.1.1] at hv
  have hb := s_bitCount (A := A) (F := F) (nw := nw) (nx := nx) (LO := LO) (DO := DO) (d := d + 1) (A 6 t)
  refine gm_mk gm_mX6_density rfl ⟨Or.inr rfl, rfl, rfl, trivial⟩ (fun G X hC hX => ?_)
  refine gm_runs hC [] 200 _ _ _ _ _ _ ?_
  exact Or.inl ⟨_, _, _, _, hc, Or.inl ⟨_, _, _, _, hv, Or.inl ⟨_, _, _, _, hb, And.intro (dnV_ok (A 6 t)).1 hX⟩⟩⟩
theorem m_density (hR : gRm A rows sp) (hF : F 21 = nI rows.length) {t : Nat} (ht : t < rows.length) : gm_Sp gm_MT (d + 3) 8077 [.ref 24, .int (nI t)] (gw A F nw nx LO DO) (.inl (some (.float (dnV (A 29 t))))) (gw A (va_up F 20 0) nw nx LO DO) 0 0 := by
  have hn := hR.1.1
  have hc := s_noTerm1 (A := A) (F := F) (nw := nw) (nx := nx) (LO := LO) (DO := DO) (d := d) hR.1.1 hF ht
  have k0 := nI_clamp (n := t) (by omega)
  have hb := s_bitCount (A := A) (F := va_up F 20 0) (nw := nw) (nx := nx) (LO := LO) (DO := DO) (d := d + 1) (A 29 t)
  refine gm_mk gm_mX7_density rfl ⟨Or.inr rfl, rfl, rfl, trivial⟩ (fun G X hC hX => ?_)
  refine gm_runs hC [] 200 _ _ _ _ _ _ ?_
  refine Or.inl ⟨_, _, _, _, hc, gx_t (show (0 : Int32) = 0 from rfl) (And.intro (nI_in (by omega) (by decide)) ?_)⟩
  rw [k0]
  exact Or.inl ⟨_, _, _, _, hb, And.intro (dnV_ok (A 29 t)).1 hX⟩
theorem m_letter1 (hR : gRm A rows sp) (hF : F 21 = nI rows.length) {i : Nat} (hi : i < 4) : ∃ A' F' sp', gRm A' (rMk rows sp (nI (97 + i)) (-1) (-1)).2 sp' ∧ F' 21 = nI (rMk rows sp (nI (97 + i)) (-1) (-1)).2.length ∧ gML rows sp (nI (97 + i)) (-1) (-1) sp' ∧ gKf A F A' F' ∧ F' 20 = (if (rMk rows sp (nI (97 + i)) (-1) (-1)).1.isSome = true then 0 else 2) ∧ gm_Sp gm_MT (d + 5) 8010 [.ref 24, .int (nI i)] (gw A F nw nx LO DO) (.inl (some (.int (gOz (rMk rows sp (nI (97 + i)) (-1) (-1)).1)))) (gw A' F' nw nx LO DO) 0 0 := by
  obtain ⟨A', F', sp', a1, a2, a3, a4, a5, a6⟩ := s_makes (nw := nw) (nx := nx) (LO := LO) (DO := DO) (d := d) hR hF (gSh_lt (n := rows.length) hi) 2
  have hin := s_isIn3 (A := A) (F := F) (nw := nw) (nx := nx) (LO := LO) (DO := DO) (d := d + 3) (nI i) 0 3
  rw [show gIn (nI i) 0 3 = true from (gIn_iff (x := nI i) (n := 3) (by decide)).mpr ⟨i, hi, rfl⟩] at hin
  generalize gOz (rMk rows sp (nI (97 + i)) (-1) (-1)).1 = z at a6
  rw [← (nI_97 hi).2] at a6
  refine ⟨A', F', sp', a1, a2, a3, a4, a5, gm_mk gm_mX7_letter rfl ⟨Or.inr rfl, rfl, rfl, trivial⟩ (fun G X hC hX => ?_)⟩
  refine gm_runs hC [] 200 _ _ _ _ _ _ ?_
  exact Or.inl ⟨_, _, _, _, hin, gx_t (show ¬ (1 : Int32) = 0 from by decide) (Or.inl ⟨_, _, _, _, a6, hX⟩)⟩
theorem m_letter2 {x : Int32} (hx : gIn x 0 3 = false) : gm_Sp gm_MT (d + 5) 8010 [.ref 24, .int x] (gw A F nw nx LO DO) (.inl (some (.int 0))) (gw A (va_up F 20 1) nw nx LO DO) 0 0 := by
  have hin := s_isIn3 (A := A) (F := F) (nw := nw) (nx := nx) (LO := LO) (DO := DO) (d := d + 3) x 0 3
  have hf := s_fail (A := A) (F := F) (nw := nw) (nx := nx) (LO := LO) (DO := DO) (d := d + 3) 1
  rw [hx] at hin
  refine gm_mk gm_mX7_letter rfl ⟨Or.inr rfl, rfl, rfl, trivial⟩ (fun G X hC hX => ?_)
  refine gm_runs hC [] 200 _ _ _ _ _ _ ?_
  exact Or.inl ⟨_, _, _, _, hin, gx_f (show ¬ ¬ (0 : Int32) = 0 from fun z => z rfl) (Or.inl ⟨_, _, _, _, hf, hX⟩)⟩
theorem m_empty (hR : gRm A rows sp) (hF : F 21 = nI rows.length) : ∃ A' F' sp', gRm A' (rMk rows sp 48 (-1) (-1)).2 sp' ∧ F' 21 = nI (rMk rows sp 48 (-1) (-1)).2.length ∧ gML rows sp 48 (-1) (-1) sp' ∧ gKf A F A' F' ∧ F' 20 = (if (rMk rows sp 48 (-1) (-1)).1.isSome = true then 0 else 1) ∧ gm_Sp gm_MT (d + 5) 8011 [.ref 24] (gw A F nw nx LO DO) (.inl (some (.int (gOz (rMk rows sp 48 (-1) (-1)).1)))) (gw A' F' nw nx LO DO) 0 0 := by
  obtain ⟨A', F', sp', a1, a2, a3, a4, a5, a6⟩ := s_makes (nw := nw) (nx := nx) (LO := LO) (DO := DO) (d := d) hR hF (k := 48) (l := -1) (r := -1) ⟨by simp [gSg], Or.inl ⟨by decide, rfl, rfl⟩⟩ 1
  refine ⟨A', F', sp', a1, a2, a3, a4, a5, gm_mk gm_mX7_empty rfl ⟨Or.inr rfl, rfl, rfl, trivial⟩ (fun G X hC hX => ?_)⟩
  refine gm_runs hC [] 200 _ _ _ _ _ _ ?_
  exact Or.inl ⟨_, _, _, _, a6, hX⟩
theorem m_universe (hR : gRm A rows sp) (hF : F 21 = nI rows.length) : ∃ A' F' sp', gRm A' (rMk rows sp 49 (-1) (-1)).2 sp' ∧ F' 21 = nI (rMk rows sp 49 (-1) (-1)).2.length ∧ gML rows sp 49 (-1) (-1) sp' ∧ gKf A F A' F' ∧ F' 20 = (if (rMk rows sp 49 (-1) (-1)).1.isSome = true then 0 else 1) ∧ gm_Sp gm_MT (d + 5) 8012 [.ref 24] (gw A F nw nx LO DO) (.inl (some (.int (gOz (rMk rows sp 49 (-1) (-1)).1)))) (gw A' F' nw nx LO DO) 0 0 := by
  obtain ⟨A', F', sp', a1, a2, a3, a4, a5, a6⟩ := s_makes (nw := nw) (nx := nx) (LO := LO) (DO := DO) (d := d) hR hF (k := 49) (l := -1) (r := -1) ⟨by simp [gSg], Or.inl ⟨by decide, rfl, rfl⟩⟩ 1
  refine ⟨A', F', sp', a1, a2, a3, a4, a5, gm_mk gm_mX7_universe rfl ⟨Or.inr rfl, rfl, rfl, trivial⟩ (fun G X hC hX => ?_)⟩
  refine gm_runs hC [] 200 _ _ _ _ _ _ ?_
  exact Or.inl ⟨_, _, _, _, a6, hX⟩
theorem m_complement1 (hR : gRm A rows sp) (hF : F 21 = nI rows.length) {t : Nat} (ht : t < rows.length) : ∃ A' F' sp', gRm A' (rMk rows sp 67 (nI t) (-1)).2 sp' ∧ F' 21 = nI (rMk rows sp 67 (nI t) (-1)).2.length ∧ gML rows sp 67 (nI t) (-1) sp' ∧ gKf A F A' F' ∧ F' 20 = (if (rMk rows sp 67 (nI t) (-1)).1.isSome = true then 0 else 2) ∧ gm_Sp gm_MT (d + 5) 8013 [.ref 24, .int (nI t)] (gw A F nw nx LO DO) (.inl (some (.int (gOz (rMk rows sp 67 (nI t) (-1)).1)))) (gw A' F' nw nx LO DO) 0 0 := by
  have hc := s_noTerm1 (A := A) (F := F) (nw := nw) (nx := nx) (LO := LO) (DO := DO) (d := d + 2) hR.1.1 hF ht
  obtain ⟨A', F', sp', a1, a2, a3, a4, a5, a6⟩ := s_makes (A := A) (F := va_up F 20 0) (nw := nw) (nx := nx) (LO := LO) (DO := DO) (d := d) hR (by rw [g_upn (by decide)]; exact hF) (k := 67) (l := nI t) (r := -1) ⟨gSg_67, Or.inr (Or.inl ⟨by decide, rfl, t, ht, rfl⟩)⟩ 2
  refine ⟨A', F', sp', a1, a2, a3, ⟨a4.1, fun j b c => by rw [a4.2 j b c, g_upn b]⟩, a5, gm_mk gm_mX7_complement rfl ⟨Or.inr rfl, rfl, rfl, trivial⟩ (fun G X hC hX => ?_)⟩
  refine gm_runs hC [] 200 _ _ _ _ _ _ ?_
  exact Or.inl ⟨_, _, _, _, hc, gx_t (show (0 : Int32) = 0 from rfl) (Or.inl ⟨_, _, _, _, a6, hX⟩)⟩
theorem m_pair1 (hR : gRm A rows sp) (hF : F 21 = nI rows.length) {k : Int32} (hk : gSg k) (hk2 : tAr k = 2) {a b : Nat} (ha : a < rows.length) (hb : b < rows.length) : ∃ A' F' sp', gRm A' (rMk rows sp k (nI a) (nI b)).2 sp' ∧ F' 21 = nI (rMk rows sp k (nI a) (nI b)).2.length ∧ gML rows sp k (nI a) (nI b) sp' ∧ gKf A F A' F' ∧ F' 20 = (if (rMk rows sp k (nI a) (nI b)).1.isSome = true then 0 else 2) ∧ gm_Sp gm_MT (d + 5) 8014 [.ref 24, .int k, .int (nI a), .int (nI b)] (gw A F nw nx LO DO) (.inl (some (.int (gOz (rMk rows sp k (nI a) (nI b)).1)))) (gw A' F' nw nx LO DO) 0 0 := by
  have hc := s_noTerm1 (A := A) (F := F) (nw := nw) (nx := nx) (LO := LO) (DO := DO) (d := d + 2) hR.1.1 hF ha
  have hc2 := s_noTerm1 (A := A) (F := va_up F 20 0) (nw := nw) (nx := nx) (LO := LO) (DO := DO) (d := d + 2) hR.1.1 (by rw [g_upn (by decide)]; exact hF) hb
  obtain ⟨A', F', sp', a1, a2, a3, a4, a5, a6⟩ := s_makes (A := A) (F := va_up (va_up F 20 0) 20 0) (nw := nw) (nx := nx) (LO := LO) (DO := DO) (d := d) hR (by rw [g_upn (by decide), g_upn (by decide)]; exact hF) (k := k) (l := nI a) (r := nI b) ⟨hk, Or.inr (Or.inr ⟨hk2, a, b, ha, hb, rfl, rfl⟩)⟩ 2
  refine ⟨A', F', sp', a1, a2, a3, ⟨a4.1, fun j b c => by rw [a4.2 j b c, g_upn b, g_upn b]⟩, a5, gm_mk gm_mX7_pair rfl ⟨Or.inr rfl, rfl, rfl, trivial⟩ (fun G X hC hX => ?_)⟩
  refine gm_runs hC [] 200 _ _ _ _ _ _ ?_
  exact Or.inl ⟨_, _, _, _, hc, gx_f (show ¬ ¬ (0 : Int32) = 0 from fun z => z rfl) (Or.inl ⟨_, _, _, _, hc2, gx_t (show (0 : Int32) = 0 from rfl) (Or.inl ⟨_, _, _, _, a6, hX⟩)⟩)⟩
theorem m_pair2 {k x y : Int32} {N : Nat} (hn : N ≤ 120) (hF : F 21 = nI N) (hxy : gT N x = none ∨ gT N y = none) : ∃ F', gKz A F A F' ∧ F' 20 = 1 ∧ gm_Sp gm_MT (d + 5) 8014 [.ref 24, .int k, .int x, .int y] (gw A F nw nx LO DO) (.inl (some (.int 0))) (gw A F' nw nx LO DO) 0 0 := by
  rcases gT_cases x hn with ⟨a, ha, rfl, -⟩ | ⟨hx, -⟩
  · have ca := s_noTerm1 (A := A) (F := F) (nw := nw) (nx := nx) (LO := LO) (DO := DO) (d := d + 2) hn hF ha
    have hy : gT N y = none := hxy.elim (fun z => by rw [gT_nI ha hn] at z; cases z) id
    have cb := s_noTerm2 (A := A) (F := va_up F 20 0) (nw := nw) (nx := nx) (LO := LO) (DO := DO) (d := d + 2) hn (by rw [g_upn (by decide)]; exact hF) hy
    refine ⟨_, (gKz.th A F 0).trans (gKz.th A _ 1), g_upe, gm_mk gm_mX7_pair rfl ⟨Or.inr rfl, rfl, rfl, trivial⟩ (fun G X hC hX => ?_)⟩
    refine gm_runs hC [] 200 _ _ _ _ _ _ ?_
    exact Or.inl ⟨_, _, _, _, ca, gx_f (show ¬ ¬ (0 : Int32) = 0 from fun z => z rfl) (Or.inl ⟨_, _, _, _, cb, gx_f (show ¬ (1 : Int32) = 0 from by decide) hX⟩)⟩
  · have ca := s_noTerm2 (A := A) (F := F) (nw := nw) (nx := nx) (LO := LO) (DO := DO) (d := d + 2) hn hF hx
    refine ⟨_, gKz.th A F 1, g_upe, gm_mk gm_mX7_pair rfl ⟨Or.inr rfl, rfl, rfl, trivial⟩ (fun G X hC hX => ?_)⟩
    refine gm_runs hC [] 200 _ _ _ _ _ _ ?_
    exact Or.inl ⟨_, _, _, _, ca, gx_t (show ¬ (1 : Int32) = 0 from by decide) hX⟩
theorem m_union {x y v : Int32} {h1 : pH} (h : gm_Sp gm_MT d 8014 [.ref 24, .int 85, .int x, .int y] (gw A F nw nx LO DO) (.inl (some (.int v))) h1 0 0) (hl : (gw A F nw nx LO DO).length = h1.length) : gm_Sp gm_MT (d + 1) 8015 [.ref 24, .int x, .int y] (gw A F nw nx LO DO) (.inl (some (.int v))) h1 0 0 := by
  refine gm_mk gm_mX7_union rfl ⟨Or.inr hl.symm, rfl, rfl, trivial⟩ (fun G X hC hX => ?_)
  refine gm_runs hC [] 200 _ _ _ _ _ _ ?_
  exact Or.inl ⟨_, _, _, _, h, hX⟩
theorem m_intersection {x y v : Int32} {h1 : pH} (h : gm_Sp gm_MT d 8014 [.ref 24, .int 73, .int x, .int y] (gw A F nw nx LO DO) (.inl (some (.int v))) h1 0 0) (hl : (gw A F nw nx LO DO).length = h1.length) : gm_Sp gm_MT (d + 1) 8016 [.ref 24, .int x, .int y] (gw A F nw nx LO DO) (.inl (some (.int v))) h1 0 0 := by
  refine gm_mk gm_mX7_intersection rfl ⟨Or.inr hl.symm, rfl, rfl, trivial⟩ (fun G X hC hX => ?_)
  refine gm_runs hC [] 200 _ _ _ _ _ _ ?_
  exact Or.inl ⟨_, _, _, _, h, hX⟩
theorem m_difference {x y v : Int32} {h1 : pH} (h : gm_Sp gm_MT d 8014 [.ref 24, .int 68, .int x, .int y] (gw A F nw nx LO DO) (.inl (some (.int v))) h1 0 0) (hl : (gw A F nw nx LO DO).length = h1.length) : gm_Sp gm_MT (d + 1) 8017 [.ref 24, .int x, .int y] (gw A F nw nx LO DO) (.inl (some (.int v))) h1 0 0 := by
  refine gm_mk gm_mX7_difference rfl ⟨Or.inr hl.symm, rfl, rfl, trivial⟩ (fun G X hC hX => ?_)
  refine gm_runs hC [] 200 _ _ _ _ _ _ ?_
  exact Or.inl ⟨_, _, _, _, h, hX⟩
theorem m_symmetric {x y v : Int32} {h1 : pH} (h : gm_Sp gm_MT d 8014 [.ref 24, .int 83, .int x, .int y] (gw A F nw nx LO DO) (.inl (some (.int v))) h1 0 0) (hl : (gw A F nw nx LO DO).length = h1.length) : gm_Sp gm_MT (d + 1) 8018 [.ref 24, .int x, .int y] (gw A F nw nx LO DO) (.inl (some (.int v))) h1 0 0 := by
  refine gm_mk gm_mX7_symmetric rfl ⟨Or.inr hl.symm, rfl, rfl, trivial⟩ (fun G X hC hX => ?_)
  refine gm_runs hC [] 200 _ _ _ _ _ _ ?_
  exact Or.inl ⟨_, _, _, _, h, hX⟩
end X