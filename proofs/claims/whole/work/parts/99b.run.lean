/-! THE LAW: from its entry to its end -/
theorem la_gd {L i : Nat} (hL : L ≤ 2048) (hi : i ≤ 2052) : (Int32.ofNat L - 4 < nI i) ↔ L < i + 4 := by
  by_cases h : 4 ≤ L
  · have e : Int32.ofNat L - 4 = nI (L - 4) := by
      have e1 : nI (L - 4) + 4 = nI L := by rw [show nI (L - 4) + 4 = nI (L - 4 + 4) from nI_add (L - 4) 4]; congr 1; omega
      show nI L - 4 = _
      rw [← e1, Int32.add_sub_cancel]
    rw [e]
    constructor
    · intro z
      rcases Nat.lt_or_ge L (i + 4) with y | y
      · exact y
      · exact absurd z (nI_nlt (by omega) (by omega))
    · exact fun z => nI_lt (by omega) (by omega)
  · refine ⟨fun _ => by omega, fun _ => ?_⟩
    have h0 : (0 : Int32) ≤ nI i := nI_pos' (by omega)
    have h1 : Int32.ofNat L - 4 < 0 := by
      rcases (show L = 0 ∨ L = 1 ∨ L = 2 ∨ L = 3 by omega) with rfl | rfl | rfl | rfl <;> decide
    rw [Int32.lt_iff_toInt_lt] at h1 ⊢
    rw [Int32.le_iff_toInt_le] at h0
    omega
def laF : Nat → Int32 := fun j => bif Nat.beq j 2 then 32 else 0
theorem la_gI {f : Nat → Int32} (hf : ∀ c, c < 81 → f c = nI (cTn c)) : gI (va_up (fun _ _ => 0) 15 f) laF 8 11 := by
  have tb : ∀ K L R S C : Nat → Int32, gRo K L R S C [] (fun _ => []) := fun K L R S C => ⟨⟨by simp, fun t ht => by simp at ht⟩, fun t ht => by simp at ht, fun t ht => by simp at ht⟩
  refine ⟨[], fun _ => [], 0, tb _ _ _ _ _, rfl, tb _ _ _ _ _, rfl, Or.inl ⟨rfl, rfl⟩, fun c hc => ?_, by omega, rfl, rfl, fun j hj => by omega, fun j hj => by omega, Or.inl ⟨rfl, rfl⟩⟩
  rw [g_upe]
  exact hf c hc
set_option maxRecDepth 8000 in
set_option maxHeartbeats 4000000 in
theorem la_run {G : pG} {X : pX} {L : Nat} {xs : Nat → Int32} (hC : gm_cl (laM la_all) gm_tyf (some (L, xs)) (gm_Sp gm_MT 61) G X) (hL : L ≤ 2048) (hX : ∀ h c s, c ≤ 601024 → s ≤ 7293034 → X (.inl (some (.int 1))) h c s) : G 0 [some (.ref 88888), none, none, none, none, none, none, none, none] [] [] 0 0 := by
  have hCE := la_sub la_sE hC
  have hCH := la_sub la_sH hC
  have hCI := la_sub la_sI hC
  have loop : ∀ (m i c s : Nat) (A : Nat → Nat → Int32) (F : Nat → Int32) (nw nx : Nat) (LO : Nat → Int64) (DO : Nat → UInt64) (o6 o7 o8 : Option Value), L ≤ i + 4 * m → i ≤ L + 3 → c ≤ 39 + i → s ≤ 4385 + 6 * i → gI A F nw nx → G 28 [some (.ref 88888), some (.ref 0), some (.ref 24), some (.ref 37), some (.ref 38), some (.int (nI i)), o6, o7, o8] [] (gw A F nw nx LO DO) c s := by
    intro m
    induction m with
    | zero =>
      intro i c s A F nw nx LO DO o6 o7 o8 hm hi hc hs hI
      refine gm_run1 hCH [37, 2288] 200 28 ?_
      refine gx_t ((la_gd hL (by omega)).mpr (by omega)) ?_
      refine gm_runs hCE [] 200 _ _ _ _ _ _ ?_
      exact ⟨Or.inr rfl, hX _ _ _ (by omega) (by omega)⟩
    | succ m ih =>
      intro i c s A F nw nx LO DO o6 o7 o8 hm hi hc hs hI
      refine gm_run1 hCH [37, 2288] 200 28 ?_
      by_cases h4 : i + 4 ≤ L
      · refine gx_f (fun z => by have := (la_gd hL (by omega)).mp z; omega) ?_
        have hK : laK G i c s := by
          intro A' F' nw' nx' LO' DO' c' s' p6 p7 p8 hI' hc' hs'
          refine gm_runs hCE [28] 200 _ _ _ _ _ _ ?_
          show G 28 [some (.ref 88888), some (.ref 0), some (.ref 24), some (.ref 37), some (.ref 38), some (.int (nI i + 4)), p6, p7, p8] [] (gw A' F' nw' nx' LO' DO') c' s'
          rw [show nI i + 4 = nI (i + 4) from nI_add i 4]
          exact ih (i + 4) c' s' A' F' nw' nx' LO' DO' p6 p7 p8 (by omega) (by omega) (by omega) (by omega) hI'
        refine gm_run1 hCH [208, 264, 308, 352, 408, 476, 544, 612, 680, 693, 749, 817, 873, 948, 1023, 1098, 1154, 1210, 1266, 1322, 1378, 1434, 1514, 1596, 1640, 1653, 1742, 1755, 1811, 1862, 1906, 1950, 1994, 2038, 2094, 2149, 2204, 2282] 200 37 ?_
        refine And.intro (nI_in (by omega) (by omega)) ?_
        exact And.intro (fun _ => la_0 (d := 0) (la_sub la_s0 hC) hK hI h4 hL o6 o7 o8) (fun _ => And.intro (fun _ => la_1 (d := 0) (la_sub la_s1 hC) hK hI h4 hL o6 o7 o8) (fun _ => And.intro (fun _ => la_2 (d := 0) (la_sub la_s2 hC) hK hI h4 hL o6 o7 o8) (fun _ => And.intro (fun _ => la_3 (d := 0) (la_sub la_s3 hC) hK hI h4 hL o6 o7 o8) (fun _ => And.intro (fun _ => la_4 (d := 0) (la_sub la_s4 hC) hK hI h4 hL o6 o7 o8) (fun _ => And.intro (fun _ => la_5 (d := 0) (la_sub la_s5 hC) hK hI h4 hL o6 o7 o8) (fun _ => And.intro (fun _ => la_6 (d := 0) (la_sub la_s6 hC) hK hI h4 hL o6 o7 o8) (fun _ => And.intro (fun _ => la_7 (d := 0) (la_sub la_s7 hC) hK hI h4 hL o6 o7 o8) (fun _ => And.intro (fun _ => la_8 (d := 0) (la_sub la_s8 hC) hK hI h4 hL o6 o7 o8) (fun _ => And.intro (fun _ => la_9 (d := 0) (la_sub la_s9 hC) hK hI h4 hL o6 o7 o8) (fun _ => And.intro (fun _ => la_10 (d := 0) (la_sub la_s10 hC) hK hI h4 hL o6 o7 o8) (fun _ => And.intro (fun _ => la_11 (d := 0) (la_sub la_s11 hC) hK hI h4 hL o6 o7 o8) (fun _ => And.intro (fun _ => la_12 (d := 0) (la_sub la_s12 hC) hK hI h4 hL o6 o7 o8) (fun _ => And.intro (fun _ => la_13 (d := 0) (la_sub la_s13 hC) hK hI h4 hL o6 o7 o8) (fun _ => And.intro (fun _ => la_14 (d := 0) (la_sub la_s14 hC) hK hI h4 hL o6 o7 o8) (fun _ => And.intro (fun _ => la_15 (d := 0) (la_sub la_s15 hC) hK hI h4 hL o6 o7 o8) (fun _ => And.intro (fun _ => la_16 (d := 0) (la_sub la_s16 hC) hK hI h4 hL o6 o7 o8) (fun _ => And.intro (fun _ => la_17 (d := 0) (la_sub la_s17 hC) hK hI h4 hL o6 o7 o8) (fun _ => And.intro (fun _ => la_18 (d := 0) (la_sub la_s18 hC) hK hI h4 hL o6 o7 o8) (fun _ => And.intro (fun _ => la_19 (d := 0) (la_sub la_s19 hC) hK hI h4 hL o6 o7 o8) (fun _ => And.intro (fun _ => la_20 (d := 0) (la_sub la_s20 hC) hK hI h4 hL o6 o7 o8) (fun _ => And.intro (fun _ => la_21 (d := 0) (la_sub la_s21 hC) hK hI h4 hL o6 o7 o8) (fun _ => And.intro (fun _ => la_22 (d := 0) (la_sub la_s22 hC) hK hI h4 hL o6 o7 o8) (fun _ => And.intro (fun _ => la_23 (d := 0) (la_sub la_s23 hC) hK hI h4 hL o6 o7 o8) (fun _ => And.intro (fun _ => la_24 (d := 0) (la_sub la_s24 hC) hK hI h4 hL o6 o7 o8) (fun _ => And.intro (fun _ => la_25 (d := 0) (la_sub la_s25 hC) hK hI h4 hL o6 o7 o8) (fun _ => And.intro (fun _ => la_26 (d := 0) (la_sub la_s26 hC) hK hI h4 hL o6 o7 o8) (fun _ => And.intro (fun _ => la_27 (d := 0) (la_sub la_s27 hC) hK hI h4 hL o6 o7 o8) (fun _ => And.intro (fun _ => la_28 (d := 0) (la_sub la_s28 hC) hK hI h4 hL o6 o7 o8) (fun _ => And.intro (fun _ => la_29 (d := 0) (la_sub la_s29 hC) hK hI h4 hL o6 o7 o8) (fun _ => And.intro (fun _ => la_30 (d := 0) (la_sub la_s30 hC) hK hI h4 hL o6 o7 o8) (fun _ => And.intro (fun _ => la_31 (d := 0) (la_sub la_s31 hC) hK hI h4 hL o6 o7 o8) (fun _ => And.intro (fun _ => la_32 (d := 0) (la_sub la_s32 hC) hK hI h4 hL o6 o7 o8) (fun _ => And.intro (fun _ => la_33 (d := 0) (la_sub la_s33 hC) hK hI h4 hL o6 o7 o8) (fun _ => And.intro (fun _ => la_34 (d := 0) (la_sub la_s34 hC) hK hI h4 hL o6 o7 o8) (fun _ => And.intro (fun _ => la_35 (d := 0) (la_sub la_s35 hC) hK hI h4 hL o6 o7 o8) (fun _ => And.intro (fun _ => la_36 (d := 0) (la_sub la_s36 hC) hK hI h4 hL o6 o7 o8) (fun _ => (hK A F nw nx LO DO c s o6 o7 o8 hI (by omega) (by omega)))))))))))))))))))))))))))))))))))))))
      · refine gx_t ((la_gd hL (by omega)).mpr (by omega)) ?_
        refine gm_runs hCE [] 200 _ _ _ _ _ _ ?_
        exact ⟨Or.inr rfl, hX _ _ _ (by omega) (by omega)⟩
  obtain ⟨f, hf, hk⟩ := k_gimlet (d := 56)
  refine gm_runs hCI [8] 200 _ _ _ _ _ _ ?_
  refine ⟨_, _, _, hk, ?_⟩
  show G 8 [some (.ref 88888), some (.ref 0), none, none, none, none, none, none, none] [] (kH f) 24 3406
  refine gm_run1 hCI [16] 200 8 ?_
  refine ⟨_, _, _, k_model (d := 60) (f := f), ?_⟩
  show G 16 [some (.ref 88888), some (.ref 0), some (.ref 24), none, none, none, none, none, none] [] [.inr (6, [.ref 1, .ref 7, .ref 14, .ref 18, .ref 21]), .inr (4, [.ref 2, .ref 3, .ref 4, .ref 5, .ref 6, .int 0]), .inl (1, 120, .inl (fun _ => 0)), .inl (0, 120, .inl (fun _ => 0)), .inl (0, 120, .inl (fun _ => 0)), .inl (0, 120, .inl (fun _ => 0)), .inl (0, 120, .inl (fun _ => 0)), .inr (1, [.ref 8, .ref 11, .int 0, .int 32]), .inr (5, [.ref 9, .ref 10, .int 0, .int 0]), .inl (1, 81, .inl (fun _ => 0)), .inl (0, 81, .inl (fun _ => 0)), .inr (5, [.ref 12, .ref 13, .int 0, .int 0]), .inl (1, 81, .inl (fun _ => 0)), .inl (0, 81, .inl (fun _ => 0)), .inr (0, [.ref 15, .ref 16, .ref 17]), .inl (0, 81, .inl f), .inl (2, 81, .inl (fun _ => 0)), .inl (2, 81, .inl (fun _ => 0)), .inr (3, [.ref 19, .ref 20, .int 0, .int 0, .int 0, .int 0]), .inl (2, 6, .inl (fun _ => 0)), .inl (0, 6, .inl (fun _ => 0)), .inr (2, [.ref 22, .ref 23, .int 0]), .inl (0, 16, .inl (fun _ => 0)), .inl (0, 2176, .inl (fun _ => 0)), .inr (7, [.int 0, .int 0, .int 0, .int 0, .int 0, .int 0, .int 0, .ref 25, .ref 26, .ref 27, .ref 28, .ref 29, .ref 30, .ref 31, .ref 32, .int 0, .int 0, .int 0, .ref 33, .ref 34, .ref 35, .ref 36, .int 0]), .inl (0, 120, .inl (fun _ => 0)), .inl (0, 120, .inl (fun _ => 0)), .inl (0, 120, .inl (fun _ => 0)), .inl (0, 120, .inl (fun _ => 0)), .inl (0, 120, .inl (fun _ => 0)), .inl (0, 6, .inl (fun _ => 0)), .inl (0, 6, .inl (fun _ => 0)), .inl (0, 6, .inl (fun _ => 0)), .inl (0, 160, .inl (fun _ => 0)), .inl (0, 160, .inl (fun _ => 0)), .inl (0, 8, .inl (fun _ => 0)), .inl (0, 8, .inl (fun _ => 0))] 37 4383
  refine gm_run1 hCI [28] 200 16 ?_
  refine And.intro (show ¬ (1 : Int32) < 0 from by decide) (And.intro (show ¬ (1 : Int32) < 0 from by decide) ?_)
  exact loop L 0 39 4385 (va_up (fun _ _ => 0) 15 f) laF 8 11 (fun _ => 0) (fun _ => 0) none none none (by omega) (by omega) (by omega) (by omega) (la_gI hf)
