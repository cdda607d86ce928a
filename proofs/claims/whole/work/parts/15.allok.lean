/-! TABLES: each method -/
theorem gm_dX0_init : ∀ q ∈ gm_cX0_init, decode cX0_init q.1 = .ok q.2 ∧ gm_lenok q.2.1 q.2.2 = true := by decide +kernel
theorem gm_eX0_init : gm_Cok gm_mX0_init := ⟨fun pc i len h => gm_dX0_init (pc, (i, len)) (gm_asc_mem h), gm_putb_of (by decide +kernel)⟩
theorem gm_gX0_init : gm_Tok gm_mX0_init := gm_Tok_of (by decide +kernel) rfl
theorem gm_dX0_tells : ∀ q ∈ gm_cX0_tells, decode cX0_tells q.1 = .ok q.2 ∧ gm_lenok q.2.1 q.2.2 = true := by decide +kernel
theorem gm_eX0_tells : gm_Cok gm_mX0_tells := ⟨fun pc i len h => gm_dX0_tells (pc, (i, len)) (gm_asc_mem h), gm_putb_of (by decide +kernel)⟩
theorem gm_gX0_tells : gm_Tok gm_mX0_tells := gm_Tok_of (by decide +kernel) rfl
theorem gm_dX0_digitOf : ∀ q ∈ gm_cX0_digitOf, decode cX0_digitOf q.1 = .ok q.2 ∧ gm_lenok q.2.1 q.2.2 = true := by decide +kernel
theorem gm_eX0_digitOf : gm_Cok gm_mX0_digitOf := ⟨fun pc i len h => gm_dX0_digitOf (pc, (i, len)) (gm_asc_mem h), gm_putb_of (by decide +kernel)⟩
theorem gm_gX0_digitOf : gm_Tok gm_mX0_digitOf := gm_Tok_of (by decide +kernel) rfl
theorem gm_dX0_weightOf : ∀ q ∈ gm_cX0_weightOf, decode cX0_weightOf q.1 = .ok q.2 ∧ gm_lenok q.2.1 q.2.2 = true := by decide +kernel
theorem gm_eX0_weightOf : gm_Cok gm_mX0_weightOf := ⟨fun pc i len h => gm_dX0_weightOf (pc, (i, len)) (gm_asc_mem h), gm_putb_of (by decide +kernel)⟩
theorem gm_gX0_weightOf : gm_Tok gm_mX0_weightOf := gm_Tok_of (by decide +kernel) rfl
theorem gm_dX0_regionsIn : ∀ q ∈ gm_cX0_regionsIn, decode cX0_regionsIn q.1 = .ok q.2 ∧ gm_lenok q.2.1 q.2.2 = true := by decide +kernel
theorem gm_eX0_regionsIn : gm_Cok gm_mX0_regionsIn := ⟨fun pc i len h => gm_dX0_regionsIn (pc, (i, len)) (gm_asc_mem h), gm_putb_of (by decide +kernel)⟩
theorem gm_gX0_regionsIn : gm_Tok gm_mX0_regionsIn := gm_Tok_of (by decide +kernel) rfl
theorem gm_dX0_contains : ∀ q ∈ gm_cX0_contains, decode cX0_contains q.1 = .ok q.2 ∧ gm_lenok q.2.1 q.2.2 = true := by decide +kernel
theorem gm_eX0_contains : gm_Cok gm_mX0_contains := ⟨fun pc i len h => gm_dX0_contains (pc, (i, len)) (gm_asc_mem h), gm_putb_of (by decide +kernel)⟩
theorem gm_gX0_contains : gm_Tok gm_mX0_contains := gm_Tok_of (by decide +kernel) rfl
theorem gm_dX0_join : ∀ q ∈ gm_cX0_join, decode cX0_join q.1 = .ok q.2 ∧ gm_lenok q.2.1 q.2.2 = true := by decide +kernel
theorem gm_eX0_join : gm_Cok gm_mX0_join := ⟨fun pc i len h => gm_dX0_join (pc, (i, len)) (gm_asc_mem h), gm_putb_of (by decide +kernel)⟩
theorem gm_gX0_join : gm_Tok gm_mX0_join := gm_Tok_of (by decide +kernel) rfl
theorem gm_dX0_isSingle : ∀ q ∈ gm_cX0_isSingle, decode cX0_isSingle q.1 = .ok q.2 ∧ gm_lenok q.2.1 q.2.2 = true := by decide +kernel
theorem gm_eX0_isSingle : gm_Cok gm_mX0_isSingle := ⟨fun pc i len h => gm_dX0_isSingle (pc, (i, len)) (gm_asc_mem h), gm_putb_of (by decide +kernel)⟩
theorem gm_gX0_isSingle : gm_Tok gm_mX0_isSingle := gm_Tok_of (by decide +kernel) rfl
theorem gm_dX0_joinParts : ∀ q ∈ gm_cX0_joinParts, decode cX0_joinParts q.1 = .ok q.2 ∧ gm_lenok q.2.1 q.2.2 = true := by decide +kernel
theorem gm_eX0_joinParts : gm_Cok gm_mX0_joinParts := ⟨fun pc i len h => gm_dX0_joinParts (pc, (i, len)) (gm_asc_mem h), gm_putb_of (by decide +kernel)⟩
theorem gm_gX0_joinParts : gm_Tok gm_mX0_joinParts := gm_Tok_of (by decide +kernel) rfl
theorem gm_dX0_countPrimes : ∀ q ∈ gm_cX0_countPrimes, decode cX0_countPrimes q.1 = .ok q.2 ∧ gm_lenok q.2.1 q.2.2 = true := by decide +kernel
theorem gm_eX0_countPrimes : gm_Cok gm_mX0_countPrimes := ⟨fun pc i len h => gm_dX0_countPrimes (pc, (i, len)) (gm_asc_mem h), gm_putb_of (by decide +kernel)⟩
theorem gm_gX0_countPrimes : gm_Tok gm_mX0_countPrimes := gm_Tok_of (by decide +kernel) rfl
theorem gm_dX0_primeAt : ∀ q ∈ gm_cX0_primeAt, decode cX0_primeAt q.1 = .ok q.2 ∧ gm_lenok q.2.1 q.2.2 = true := by decide +kernel
theorem gm_eX0_primeAt : gm_Cok gm_mX0_primeAt := ⟨fun pc i len h => gm_dX0_primeAt (pc, (i, len)) (gm_asc_mem h), gm_putb_of (by decide +kernel)⟩
theorem gm_gX0_primeAt : gm_Tok gm_mX0_primeAt := gm_Tok_of (by decide +kernel) rfl
theorem gm_dX0_countByTrying : ∀ q ∈ gm_cX0_countByTrying, decode cX0_countByTrying q.1 = .ok q.2 ∧ gm_lenok q.2.1 q.2.2 = true := by decide +kernel
theorem gm_eX0_countByTrying : gm_Cok gm_mX0_countByTrying := ⟨fun pc i len h => gm_dX0_countByTrying (pc, (i, len)) (gm_asc_mem h), gm_putb_of (by decide +kernel)⟩
theorem gm_gX0_countByTrying : gm_Tok gm_mX0_countByTrying := gm_Tok_of (by decide +kernel) rfl
theorem gm_dX0_isInLarger : ∀ q ∈ gm_cX0_isInLarger, decode cX0_isInLarger q.1 = .ok q.2 ∧ gm_lenok q.2.1 q.2.2 = true := by decide +kernel
theorem gm_eX0_isInLarger : gm_Cok gm_mX0_isInLarger := ⟨fun pc i len h => gm_dX0_isInLarger (pc, (i, len)) (gm_asc_mem h), gm_putb_of (by decide +kernel)⟩
theorem gm_gX0_isInLarger : gm_Tok gm_mX0_isInLarger := gm_Tok_of (by decide +kernel) rfl
theorem gm_dX0_isInside : ∀ q ∈ gm_cX0_isInside, decode cX0_isInside q.1 = .ok q.2 ∧ gm_lenok q.2.1 q.2.2 = true := by decide +kernel
theorem gm_eX0_isInside : gm_Cok gm_mX0_isInside := ⟨fun pc i len h => gm_dX0_isInside (pc, (i, len)) (gm_asc_mem h), gm_putb_of (by decide +kernel)⟩
theorem gm_gX0_isInside : gm_Tok gm_mX0_isInside := gm_Tok_of (by decide +kernel) rfl
theorem gm_dX1_init : ∀ q ∈ gm_cX1_init, decode cX1_init q.1 = .ok q.2 ∧ gm_lenok q.2.1 q.2.2 = true := by decide +kernel
theorem gm_eX1_init : gm_Cok gm_mX1_init := ⟨fun pc i len h => gm_dX1_init (pc, (i, len)) (gm_asc_mem h), gm_putb_of (by decide +kernel)⟩
theorem gm_gX1_init : gm_Tok gm_mX1_init := gm_Tok_of (by decide +kernel) rfl
theorem gm_dX1_load : ∀ q ∈ gm_cX1_load, decode cX1_load q.1 = .ok q.2 ∧ gm_lenok q.2.1 q.2.2 = true := by decide +kernel
theorem gm_eX1_load : gm_Cok gm_mX1_load := ⟨fun pc i len h => gm_dX1_load (pc, (i, len)) (gm_asc_mem h), gm_putb_of (by decide +kernel)⟩
theorem gm_gX1_load : gm_Tok gm_mX1_load := gm_Tok_of (by decide +kernel) rfl
theorem gm_dX1_text : ∀ q ∈ gm_cX1_text, decode cX1_text q.1 = .ok q.2 ∧ gm_lenok q.2.1 q.2.2 = true := by decide +kernel
theorem gm_eX1_text : gm_Cok gm_mX1_text := ⟨fun pc i len h => gm_dX1_text (pc, (i, len)) (gm_asc_mem h), gm_putb_of (by decide +kernel)⟩
theorem gm_gX1_text : gm_Tok gm_mX1_text := gm_Tok_of (by decide +kernel) rfl
theorem gm_dX1_nextRule : ∀ q ∈ gm_cX1_nextRule, decode cX1_nextRule q.1 = .ok q.2 ∧ gm_lenok q.2.1 q.2.2 = true := by decide +kernel
theorem gm_eX1_nextRule : gm_Cok gm_mX1_nextRule := ⟨fun pc i len h => gm_dX1_nextRule (pc, (i, len)) (gm_asc_mem h), gm_putb_of (by decide +kernel)⟩
theorem gm_gX1_nextRule : gm_Tok gm_mX1_nextRule := gm_Tok_of (by decide +kernel) rfl
theorem gm_dX1_seek : ∀ q ∈ gm_cX1_seek, decode cX1_seek q.1 = .ok q.2 ∧ gm_lenok q.2.1 q.2.2 = true := by decide +kernel
theorem gm_eX1_seek : gm_Cok gm_mX1_seek := ⟨fun pc i len h => gm_dX1_seek (pc, (i, len)) (gm_asc_mem h), gm_putb_of (by decide +kernel)⟩
theorem gm_gX1_seek : gm_Tok gm_mX1_seek := gm_Tok_of (by decide +kernel) rfl
theorem gm_dX1_ruleAt : ∀ q ∈ gm_cX1_ruleAt, decode cX1_ruleAt q.1 = .ok q.2 ∧ gm_lenok q.2.1 q.2.2 = true := by decide +kernel
theorem gm_eX1_ruleAt : gm_Cok gm_mX1_ruleAt := ⟨fun pc i len h => gm_dX1_ruleAt (pc, (i, len)) (gm_asc_mem h), gm_putb_of (by decide +kernel)⟩
theorem gm_gX1_ruleAt : gm_Tok gm_mX1_ruleAt := gm_Tok_of (by decide +kernel) rfl
theorem gm_dX1_ruleOfComplement : ∀ q ∈ gm_cX1_ruleOfComplement, decode cX1_ruleOfComplement q.1 = .ok q.2 ∧ gm_lenok q.2.1 q.2.2 = true := by decide +kernel
theorem gm_eX1_ruleOfComplement : gm_Cok gm_mX1_ruleOfComplement := ⟨fun pc i len h => gm_dX1_ruleOfComplement (pc, (i, len)) (gm_asc_mem h), gm_putb_of (by decide +kernel)⟩
theorem gm_gX1_ruleOfComplement : gm_Tok gm_mX1_ruleOfComplement := gm_Tok_of (by decide +kernel) rfl
theorem gm_dX1_ruleOfPair : ∀ q ∈ gm_cX1_ruleOfPair, decode cX1_ruleOfPair q.1 = .ok q.2 ∧ gm_lenok q.2.1 q.2.2 = true := by decide +kernel
theorem gm_eX1_ruleOfPair : gm_Cok gm_mX1_ruleOfPair := ⟨fun pc i len h => gm_dX1_ruleOfPair (pc, (i, len)) (gm_asc_mem h), gm_putb_of (by decide +kernel)⟩
theorem gm_gX1_ruleOfPair : gm_Tok gm_mX1_ruleOfPair := gm_Tok_of (by decide +kernel) rfl
theorem gm_dX1_rewrite : ∀ q ∈ gm_cX1_rewrite, decode cX1_rewrite q.1 = .ok q.2 ∧ gm_lenok q.2.1 q.2.2 = true := by decide +kernel
theorem gm_eX1_rewrite : gm_Cok gm_mX1_rewrite := ⟨fun pc i len h => gm_dX1_rewrite (pc, (i, len)) (gm_asc_mem h), gm_putb_of (by decide +kernel)⟩
theorem gm_gX1_rewrite : gm_Tok gm_mX1_rewrite := gm_Tok_of (by decide +kernel) rfl
theorem gm_dX1_putRewritten : ∀ q ∈ gm_cX1_putRewritten, decode cX1_putRewritten q.1 = .ok q.2 ∧ gm_lenok q.2.1 q.2.2 = true := by decide +kernel
theorem gm_eX1_putRewritten : gm_Cok gm_mX1_putRewritten := ⟨fun pc i len h => gm_dX1_putRewritten (pc, (i, len)) (gm_asc_mem h), gm_putb_of (by decide +kernel)⟩
theorem gm_gX1_putRewritten : gm_Tok gm_mX1_putRewritten := gm_Tok_of (by decide +kernel) rfl
theorem gm_dX1_putComplements : ∀ q ∈ gm_cX1_putComplements, decode cX1_putComplements q.1 = .ok q.2 ∧ gm_lenok q.2.1 q.2.2 = true := by decide +kernel
theorem gm_eX1_putComplements : gm_Cok gm_mX1_putComplements := ⟨fun pc i len h => gm_dX1_putComplements (pc, (i, len)) (gm_asc_mem h), gm_putb_of (by decide +kernel)⟩
theorem gm_gX1_putComplements : gm_Tok gm_mX1_putComplements := gm_Tok_of (by decide +kernel) rfl
theorem gm_dX1_putDifferences : ∀ q ∈ gm_cX1_putDifferences, decode cX1_putDifferences q.1 = .ok q.2 ∧ gm_lenok q.2.1 q.2.2 = true := by decide +kernel
theorem gm_eX1_putDifferences : gm_Cok gm_mX1_putDifferences := ⟨fun pc i len h => gm_dX1_putDifferences (pc, (i, len)) (gm_asc_mem h), gm_putb_of (by decide +kernel)⟩
theorem gm_gX1_putDifferences : gm_Tok gm_mX1_putDifferences := gm_Tok_of (by decide +kernel) rfl
theorem gm_dX1_putOtherSide : ∀ q ∈ gm_cX1_putOtherSide, decode cX1_putOtherSide q.1 = .ok q.2 ∧ gm_lenok q.2.1 q.2.2 = true := by decide +kernel
theorem gm_eX1_putOtherSide : gm_Cok gm_mX1_putOtherSide := ⟨fun pc i len h => gm_dX1_putOtherSide (pc, (i, len)) (gm_asc_mem h), gm_putb_of (by decide +kernel)⟩
theorem gm_gX1_putOtherSide : gm_Tok gm_mX1_putOtherSide := gm_Tok_of (by decide +kernel) rfl
theorem gm_dX1_constantOf : ∀ q ∈ gm_cX1_constantOf, decode cX1_constantOf q.1 = .ok q.2 ∧ gm_lenok q.2.1 q.2.2 = true := by decide +kernel
theorem gm_eX1_constantOf : gm_Cok gm_mX1_constantOf := ⟨fun pc i len h => gm_dX1_constantOf (pc, (i, len)) (gm_asc_mem h), gm_putb_of (by decide +kernel)⟩
theorem gm_gX1_constantOf : gm_Tok gm_mX1_constantOf := gm_Tok_of (by decide +kernel) rfl
theorem gm_dX2_init : ∀ q ∈ gm_cX2_init, decode cX2_init q.1 = .ok q.2 ∧ gm_lenok q.2.1 q.2.2 = true := by decide +kernel
theorem gm_eX2_init : gm_Cok gm_mX2_init := ⟨fun pc i len h => gm_dX2_init (pc, (i, len)) (gm_asc_mem h), gm_putb_of (by decide +kernel)⟩
theorem gm_gX2_init : gm_Tok gm_mX2_init := gm_Tok_of (by decide +kernel) rfl
theorem gm_dX2_prepare : ∀ q ∈ gm_cX2_prepare, decode cX2_prepare q.1 = .ok q.2 ∧ gm_lenok q.2.1 q.2.2 = true := by decide +kernel
theorem gm_eX2_prepare : gm_Cok gm_mX2_prepare := ⟨fun pc i len h => gm_dX2_prepare (pc, (i, len)) (gm_asc_mem h), gm_putb_of (by decide +kernel)⟩
theorem gm_gX2_prepare : gm_Tok gm_mX2_prepare := gm_Tok_of (by decide +kernel) rfl
theorem gm_dX2_want : ∀ q ∈ gm_cX2_want, decode cX2_want q.1 = .ok q.2 ∧ gm_lenok q.2.1 q.2.2 = true := by decide +kernel
theorem gm_eX2_want : gm_Cok gm_mX2_want := ⟨fun pc i len h => gm_dX2_want (pc, (i, len)) (gm_asc_mem h), gm_putb_of (by decide +kernel)⟩
theorem gm_gX2_want : gm_Tok gm_mX2_want := gm_Tok_of (by decide +kernel) rfl
theorem gm_dX2_fewestBySets : ∀ q ∈ gm_cX2_fewestBySets, decode cX2_fewestBySets q.1 = .ok q.2 ∧ gm_lenok q.2.1 q.2.2 = true := by decide +kernel
theorem gm_eX2_fewestBySets : gm_Cok gm_mX2_fewestBySets := ⟨fun pc i len h => gm_dX2_fewestBySets (pc, (i, len)) (gm_asc_mem h), gm_putb_of (by decide +kernel)⟩
theorem gm_gX2_fewestBySets : gm_Tok gm_mX2_fewestBySets := gm_Tok_of (by decide +kernel) rfl
theorem gm_dX2_fewestFrom : ∀ q ∈ gm_cX2_fewestFrom, decode cX2_fewestFrom q.1 = .ok q.2 ∧ gm_lenok q.2.1 q.2.2 = true := by decide +kernel
theorem gm_eX2_fewestFrom : gm_Cok gm_mX2_fewestFrom := ⟨fun pc i len h => gm_dX2_fewestFrom (pc, (i, len)) (gm_asc_mem h), gm_putb_of (by decide +kernel)⟩
theorem gm_gX2_fewestFrom : gm_Tok gm_mX2_fewestFrom := gm_Tok_of (by decide +kernel) rfl
theorem gm_dX2_regionOf : ∀ q ∈ gm_cX2_regionOf, decode cX2_regionOf q.1 = .ok q.2 ∧ gm_lenok q.2.1 q.2.2 = true := by decide +kernel
theorem gm_eX2_regionOf : gm_Cok gm_mX2_regionOf := ⟨fun pc i len h => gm_dX2_regionOf (pc, (i, len)) (gm_asc_mem h), gm_putb_of (by decide +kernel)⟩
theorem gm_gX2_regionOf : gm_Tok gm_mX2_regionOf := gm_Tok_of (by decide +kernel) rfl
theorem gm_dX2_fewestByTrying : ∀ q ∈ gm_cX2_fewestByTrying, decode cX2_fewestByTrying q.1 = .ok q.2 ∧ gm_lenok q.2.1 q.2.2 = true := by decide +kernel
theorem gm_eX2_fewestByTrying : gm_Cok gm_mX2_fewestByTrying := ⟨fun pc i len h => gm_dX2_fewestByTrying (pc, (i, len)) (gm_asc_mem h), gm_putb_of (by decide +kernel)⟩
theorem gm_gX2_fewestByTrying : gm_Tok gm_mX2_fewestByTrying := gm_Tok_of (by decide +kernel) rfl
theorem gm_dX2_canMeet : ∀ q ∈ gm_cX2_canMeet, decode cX2_canMeet q.1 = .ok q.2 ∧ gm_lenok q.2.1 q.2.2 = true := by decide +kernel
theorem gm_eX2_canMeet : gm_Cok gm_mX2_canMeet := ⟨fun pc i len h => gm_dX2_canMeet (pc, (i, len)) (gm_asc_mem h), gm_putb_of (by decide +kernel)⟩
theorem gm_gX2_canMeet : gm_Tok gm_mX2_canMeet := gm_Tok_of (by decide +kernel) rfl
theorem gm_dX3_init : ∀ q ∈ gm_cX3_init, decode cX3_init q.1 = .ok q.2 ∧ gm_lenok q.2.1 q.2.2 = true := by decide +kernel
theorem gm_eX3_init : gm_Cok gm_mX3_init := ⟨fun pc i len h => gm_dX3_init (pc, (i, len)) (gm_asc_mem h), gm_putb_of (by decide +kernel)⟩
theorem gm_gX3_init : gm_Tok gm_mX3_init := gm_Tok_of (by decide +kernel) rfl
theorem gm_dX3_howMany : ∀ q ∈ gm_cX3_howMany, decode cX3_howMany q.1 = .ok q.2 ∧ gm_lenok q.2.1 q.2.2 = true := by decide +kernel
theorem gm_eX3_howMany : gm_Cok gm_mX3_howMany := ⟨fun pc i len h => gm_dX3_howMany (pc, (i, len)) (gm_asc_mem h), gm_putb_of (by decide +kernel)⟩
theorem gm_gX3_howMany : gm_Tok gm_mX3_howMany := gm_Tok_of (by decide +kernel) rfl
theorem gm_dX3_add : ∀ q ∈ gm_cX3_add, decode cX3_add q.1 = .ok q.2 ∧ gm_lenok q.2.1 q.2.2 = true := by decide +kernel
theorem gm_eX3_add : gm_Cok gm_mX3_add := ⟨fun pc i len h => gm_dX3_add (pc, (i, len)) (gm_asc_mem h), gm_putb_of (by decide +kernel)⟩
theorem gm_gX3_add : gm_Tok gm_mX3_add := gm_Tok_of (by decide +kernel) rfl
theorem gm_dX3_removeLast : ∀ q ∈ gm_cX3_removeLast, decode cX3_removeLast q.1 = .ok q.2 ∧ gm_lenok q.2.1 q.2.2 = true := by decide +kernel
theorem gm_eX3_removeLast : gm_Cok gm_mX3_removeLast := ⟨fun pc i len h => gm_dX3_removeLast (pc, (i, len)) (gm_asc_mem h), gm_putb_of (by decide +kernel)⟩
theorem gm_gX3_removeLast : gm_Tok gm_mX3_removeLast := gm_Tok_of (by decide +kernel) rfl
theorem gm_dX3_demandsElement : ∀ q ∈ gm_cX3_demandsElement, decode cX3_demandsElement q.1 = .ok q.2 ∧ gm_lenok q.2.1 q.2.2 = true := by decide +kernel
theorem gm_eX3_demandsElement : gm_Cok gm_mX3_demandsElement := ⟨fun pc i len h => gm_dX3_demandsElement (pc, (i, len)) (gm_asc_mem h), gm_putb_of (by decide +kernel)⟩
theorem gm_gX3_demandsElement : gm_Tok gm_mX3_demandsElement := gm_Tok_of (by decide +kernel) rfl
theorem gm_dX3_placesAt : ∀ q ∈ gm_cX3_placesAt, decode cX3_placesAt q.1 = .ok q.2 ∧ gm_lenok q.2.1 q.2.2 = true := by decide +kernel
theorem gm_eX3_placesAt : gm_Cok gm_mX3_placesAt := ⟨fun pc i len h => gm_dX3_placesAt (pc, (i, len)) (gm_asc_mem h), gm_putb_of (by decide +kernel)⟩
theorem gm_gX3_placesAt : gm_Tok gm_mX3_placesAt := gm_Tok_of (by decide +kernel) rfl
theorem gm_dX3_hasGoal : ∀ q ∈ gm_cX3_hasGoal, decode cX3_hasGoal q.1 = .ok q.2 ∧ gm_lenok q.2.1 q.2.2 = true := by decide +kernel
theorem gm_eX3_hasGoal : gm_Cok gm_mX3_hasGoal := ⟨fun pc i len h => gm_dX3_hasGoal (pc, (i, len)) (gm_asc_mem h), gm_putb_of (by decide +kernel)⟩
theorem gm_gX3_hasGoal : gm_Tok gm_mX3_hasGoal := gm_Tok_of (by decide +kernel) rfl
theorem gm_dX3_goalDemands : ∀ q ∈ gm_cX3_goalDemands, decode cX3_goalDemands q.1 = .ok q.2 ∧ gm_lenok q.2.1 q.2.2 = true := by decide +kernel
theorem gm_eX3_goalDemands : gm_Cok gm_mX3_goalDemands := ⟨fun pc i len h => gm_dX3_goalDemands (pc, (i, len)) (gm_asc_mem h), gm_putb_of (by decide +kernel)⟩
theorem gm_gX3_goalDemands : gm_Tok gm_mX3_goalDemands := gm_Tok_of (by decide +kernel) rfl
theorem gm_dX3_goalRegions : ∀ q ∈ gm_cX3_goalRegions, decode cX3_goalRegions q.1 = .ok q.2 ∧ gm_lenok q.2.1 q.2.2 = true := by decide +kernel
theorem gm_eX3_goalRegions : gm_Cok gm_mX3_goalRegions := ⟨fun pc i len h => gm_dX3_goalRegions (pc, (i, len)) (gm_asc_mem h), gm_putb_of (by decide +kernel)⟩
theorem gm_gX3_goalRegions : gm_Tok gm_mX3_goalRegions := gm_Tok_of (by decide +kernel) rfl
theorem gm_dX3_aimAt : ∀ q ∈ gm_cX3_aimAt, decode cX3_aimAt q.1 = .ok q.2 ∧ gm_lenok q.2.1 q.2.2 = true := by decide +kernel
theorem gm_eX3_aimAt : gm_Cok gm_mX3_aimAt := ⟨fun pc i len h => gm_dX3_aimAt (pc, (i, len)) (gm_asc_mem h), gm_putb_of (by decide +kernel)⟩
theorem gm_gX3_aimAt : gm_Tok gm_mX3_aimAt := gm_Tok_of (by decide +kernel) rfl
theorem gm_dX3_allowed : ∀ q ∈ gm_cX3_allowed, decode cX3_allowed q.1 = .ok q.2 ∧ gm_lenok q.2.1 q.2.2 = true := by decide +kernel
theorem gm_eX3_allowed : gm_Cok gm_mX3_allowed := ⟨fun pc i len h => gm_dX3_allowed (pc, (i, len)) (gm_asc_mem h), gm_putb_of (by decide +kernel)⟩
theorem gm_gX3_allowed : gm_Tok gm_mX3_allowed := gm_Tok_of (by decide +kernel) rfl
theorem gm_dX3_firstDenial : ∀ q ∈ gm_cX3_firstDenial, decode cX3_firstDenial q.1 = .ok q.2 ∧ gm_lenok q.2.1 q.2.2 = true := by decide +kernel
theorem gm_eX3_firstDenial : gm_Cok gm_mX3_firstDenial := ⟨fun pc i len h => gm_dX3_firstDenial (pc, (i, len)) (gm_asc_mem h), gm_putb_of (by decide +kernel)⟩
theorem gm_gX3_firstDenial : gm_Tok gm_mX3_firstDenial := gm_Tok_of (by decide +kernel) rfl
theorem gm_dX3_firstUnmet : ∀ q ∈ gm_cX3_firstUnmet, decode cX3_firstUnmet q.1 = .ok q.2 ∧ gm_lenok q.2.1 q.2.2 = true := by decide +kernel
theorem gm_eX3_firstUnmet : gm_Cok gm_mX3_firstUnmet := ⟨fun pc i len h => gm_dX3_firstUnmet (pc, (i, len)) (gm_asc_mem h), gm_putb_of (by decide +kernel)⟩
theorem gm_gX3_firstUnmet : gm_Tok gm_mX3_firstUnmet := gm_Tok_of (by decide +kernel) rfl
theorem gm_dX3_haveModel : ∀ q ∈ gm_cX3_haveModel, decode cX3_haveModel q.1 = .ok q.2 ∧ gm_lenok q.2.1 q.2.2 = true := by decide +kernel
theorem gm_eX3_haveModel : gm_Cok gm_mX3_haveModel := ⟨fun pc i len h => gm_dX3_haveModel (pc, (i, len)) (gm_asc_mem h), gm_putb_of (by decide +kernel)⟩
theorem gm_gX3_haveModel : gm_Tok gm_mX3_haveModel := gm_Tok_of (by decide +kernel) rfl
theorem gm_dX3_firstWitness : ∀ q ∈ gm_cX3_firstWitness, decode cX3_firstWitness q.1 = .ok q.2 ∧ gm_lenok q.2.1 q.2.2 = true := by decide +kernel
theorem gm_eX3_firstWitness : gm_Cok gm_mX3_firstWitness := ⟨fun pc i len h => gm_dX3_firstWitness (pc, (i, len)) (gm_asc_mem h), gm_putb_of (by decide +kernel)⟩
theorem gm_gX3_firstWitness : gm_Tok gm_mX3_firstWitness := gm_Tok_of (by decide +kernel) rfl
theorem gm_dX3_proveGoal : ∀ q ∈ gm_cX3_proveGoal, decode cX3_proveGoal q.1 = .ok q.2 ∧ gm_lenok q.2.1 q.2.2 = true := by decide +kernel
theorem gm_eX3_proveGoal : gm_Cok gm_mX3_proveGoal := ⟨fun pc i len h => gm_dX3_proveGoal (pc, (i, len)) (gm_asc_mem h), gm_putb_of (by decide +kernel)⟩
theorem gm_gX3_proveGoal : gm_Tok gm_mX3_proveGoal := gm_Tok_of (by decide +kernel) rfl
theorem gm_dX3_allHold : ∀ q ∈ gm_cX3_allHold, decode cX3_allHold q.1 = .ok q.2 ∧ gm_lenok q.2.1 q.2.2 = true := by decide +kernel
theorem gm_eX3_allHold : gm_Cok gm_mX3_allHold := ⟨fun pc i len h => gm_dX3_allHold (pc, (i, len)) (gm_asc_mem h), gm_putb_of (by decide +kernel)⟩
theorem gm_gX3_allHold : gm_Tok gm_mX3_allHold := gm_Tok_of (by decide +kernel) rfl
theorem gm_dX3_countModels : ∀ q ∈ gm_cX3_countModels, decode cX3_countModels q.1 = .ok q.2 ∧ gm_lenok q.2.1 q.2.2 = true := by decide +kernel
theorem gm_eX3_countModels : gm_Cok gm_mX3_countModels := ⟨fun pc i len h => gm_dX3_countModels (pc, (i, len)) (gm_asc_mem h), gm_putb_of (by decide +kernel)⟩
theorem gm_gX3_countModels : gm_Tok gm_mX3_countModels := gm_Tok_of (by decide +kernel) rfl
theorem gm_dX3_isSetOfDemands : ∀ q ∈ gm_cX3_isSetOfDemands, decode cX3_isSetOfDemands q.1 = .ok q.2 ∧ gm_lenok q.2.1 q.2.2 = true := by decide +kernel
theorem gm_eX3_isSetOfDemands : gm_Cok gm_mX3_isSetOfDemands := ⟨fun pc i len h => gm_dX3_isSetOfDemands (pc, (i, len)) (gm_asc_mem h), gm_putb_of (by decide +kernel)⟩
theorem gm_gX3_isSetOfDemands : gm_Tok gm_mX3_isSetOfDemands := gm_Tok_of (by decide +kernel) rfl
theorem gm_dX3_placesOfSet : ∀ q ∈ gm_cX3_placesOfSet, decode cX3_placesOfSet q.1 = .ok q.2 ∧ gm_lenok q.2.1 q.2.2 = true := by decide +kernel
theorem gm_eX3_placesOfSet : gm_Cok gm_mX3_placesOfSet := ⟨fun pc i len h => gm_dX3_placesOfSet (pc, (i, len)) (gm_asc_mem h), gm_putb_of (by decide +kernel)⟩
theorem gm_gX3_placesOfSet : gm_Tok gm_mX3_placesOfSet := gm_Tok_of (by decide +kernel) rfl
theorem gm_dX3_power : ∀ q ∈ gm_cX3_power, decode cX3_power q.1 = .ok q.2 ∧ gm_lenok q.2.1 q.2.2 = true := by decide +kernel
theorem gm_eX3_power : gm_Cok gm_mX3_power := ⟨fun pc i len h => gm_dX3_power (pc, (i, len)) (gm_asc_mem h), gm_putb_of (by decide +kernel)⟩
theorem gm_gX3_power : gm_Tok gm_mX3_power := gm_Tok_of (by decide +kernel) rfl
theorem gm_dX3_countModelsByTrying : ∀ q ∈ gm_cX3_countModelsByTrying, decode cX3_countModelsByTrying q.1 = .ok q.2 ∧ gm_lenok q.2.1 q.2.2 = true := by decide +kernel
theorem gm_eX3_countModelsByTrying : gm_Cok gm_mX3_countModelsByTrying := ⟨fun pc i len h => gm_dX3_countModelsByTrying (pc, (i, len)) (gm_asc_mem h), gm_putb_of (by decide +kernel)⟩
theorem gm_gX3_countModelsByTrying : gm_Tok gm_mX3_countModelsByTrying := gm_Tok_of (by decide +kernel) rfl
theorem gm_dX3_occupiedBy : ∀ q ∈ gm_cX3_occupiedBy, decode cX3_occupiedBy q.1 = .ok q.2 ∧ gm_lenok q.2.1 q.2.2 = true := by decide +kernel
theorem gm_eX3_occupiedBy : gm_Cok gm_mX3_occupiedBy := ⟨fun pc i len h => gm_dX3_occupiedBy (pc, (i, len)) (gm_asc_mem h), gm_putb_of (by decide +kernel)⟩
theorem gm_gX3_occupiedBy : gm_Tok gm_mX3_occupiedBy := gm_Tok_of (by decide +kernel) rfl
theorem gm_dX4_init : ∀ q ∈ gm_cX4_init, decode cX4_init q.1 = .ok q.2 ∧ gm_lenok q.2.1 q.2.2 = true := by decide +kernel
theorem gm_eX4_init : gm_Cok gm_mX4_init := ⟨fun pc i len h => gm_dX4_init (pc, (i, len)) (gm_asc_mem h), gm_putb_of (by decide +kernel)⟩
theorem gm_gX4_init : gm_Tok gm_mX4_init := gm_Tok_of (by decide +kernel) rfl
theorem gm_dX4_howMany : ∀ q ∈ gm_cX4_howMany, decode cX4_howMany q.1 = .ok q.2 ∧ gm_lenok q.2.1 q.2.2 = true := by decide +kernel
theorem gm_eX4_howMany : gm_Cok gm_mX4_howMany := ⟨fun pc i len h => gm_dX4_howMany (pc, (i, len)) (gm_asc_mem h), gm_putb_of (by decide +kernel)⟩
theorem gm_gX4_howMany : gm_Tok gm_mX4_howMany := gm_Tok_of (by decide +kernel) rfl
theorem gm_dX4_isKnown : ∀ q ∈ gm_cX4_isKnown, decode cX4_isKnown q.1 = .ok q.2 ∧ gm_lenok q.2.1 q.2.2 = true := by decide +kernel
theorem gm_eX4_isKnown : gm_Cok gm_mX4_isKnown := ⟨fun pc i len h => gm_dX4_isKnown (pc, (i, len)) (gm_asc_mem h), gm_putb_of (by decide +kernel)⟩
theorem gm_gX4_isKnown : gm_Tok gm_mX4_isKnown := gm_Tok_of (by decide +kernel) rfl
theorem gm_dX4_sizeOf : ∀ q ∈ gm_cX4_sizeOf, decode cX4_sizeOf q.1 = .ok q.2 ∧ gm_lenok q.2.1 q.2.2 = true := by decide +kernel
theorem gm_eX4_sizeOf : gm_Cok gm_mX4_sizeOf := ⟨fun pc i len h => gm_dX4_sizeOf (pc, (i, len)) (gm_asc_mem h), gm_putb_of (by decide +kernel)⟩
theorem gm_gX4_sizeOf : gm_Tok gm_mX4_sizeOf := gm_Tok_of (by decide +kernel) rfl
theorem gm_dX4_coverOf : ∀ q ∈ gm_cX4_coverOf, decode cX4_coverOf q.1 = .ok q.2 ∧ gm_lenok q.2.1 q.2.2 = true := by decide +kernel
theorem gm_eX4_coverOf : gm_Cok gm_mX4_coverOf := ⟨fun pc i len h => gm_dX4_coverOf (pc, (i, len)) (gm_asc_mem h), gm_putb_of (by decide +kernel)⟩
theorem gm_gX4_coverOf : gm_Tok gm_mX4_coverOf := gm_Tok_of (by decide +kernel) rfl
theorem gm_dX4_headOf : ∀ q ∈ gm_cX4_headOf, decode cX4_headOf q.1 = .ok q.2 ∧ gm_lenok q.2.1 q.2.2 = true := by decide +kernel
theorem gm_eX4_headOf : gm_Cok gm_mX4_headOf := ⟨fun pc i len h => gm_dX4_headOf (pc, (i, len)) (gm_asc_mem h), gm_putb_of (by decide +kernel)⟩
theorem gm_gX4_headOf : gm_Tok gm_mX4_headOf := gm_Tok_of (by decide +kernel) rfl
theorem gm_dX4_leftOf : ∀ q ∈ gm_cX4_leftOf, decode cX4_leftOf q.1 = .ok q.2 ∧ gm_lenok q.2.1 q.2.2 = true := by decide +kernel
theorem gm_eX4_leftOf : gm_Cok gm_mX4_leftOf := ⟨fun pc i len h => gm_dX4_leftOf (pc, (i, len)) (gm_asc_mem h), gm_putb_of (by decide +kernel)⟩
theorem gm_gX4_leftOf : gm_Tok gm_mX4_leftOf := gm_Tok_of (by decide +kernel) rfl
theorem gm_dX4_rightOf : ∀ q ∈ gm_cX4_rightOf, decode cX4_rightOf q.1 = .ok q.2 ∧ gm_lenok q.2.1 q.2.2 = true := by decide +kernel
theorem gm_eX4_rightOf : gm_Cok gm_mX4_rightOf := ⟨fun pc i len h => gm_dX4_rightOf (pc, (i, len)) (gm_asc_mem h), gm_putb_of (by decide +kernel)⟩
theorem gm_gX4_rightOf : gm_Tok gm_mX4_rightOf := gm_Tok_of (by decide +kernel) rfl
theorem gm_dX4_symbolOf : ∀ q ∈ gm_cX4_symbolOf, decode cX4_symbolOf q.1 = .ok q.2 ∧ gm_lenok q.2.1 q.2.2 = true := by decide +kernel
theorem gm_eX4_symbolOf : gm_Cok gm_mX4_symbolOf := ⟨fun pc i len h => gm_dX4_symbolOf (pc, (i, len)) (gm_asc_mem h), gm_putb_of (by decide +kernel)⟩
theorem gm_gX4_symbolOf : gm_Tok gm_mX4_symbolOf := gm_Tok_of (by decide +kernel) rfl
theorem gm_dX4_make : ∀ q ∈ gm_cX4_make, decode cX4_make q.1 = .ok q.2 ∧ gm_lenok q.2.1 q.2.2 = true := by decide +kernel
theorem gm_eX4_make : gm_Cok gm_mX4_make := ⟨fun pc i len h => gm_dX4_make (pc, (i, len)) (gm_asc_mem h), gm_putb_of (by decide +kernel)⟩
theorem gm_gX4_make : gm_Tok gm_mX4_make := gm_Tok_of (by decide +kernel) rfl
theorem gm_dX4_find : ∀ q ∈ gm_cX4_find, decode cX4_find q.1 = .ok q.2 ∧ gm_lenok q.2.1 q.2.2 = true := by decide +kernel
theorem gm_eX4_find : gm_Cok gm_mX4_find := ⟨fun pc i len h => gm_dX4_find (pc, (i, len)) (gm_asc_mem h), gm_putb_of (by decide +kernel)⟩
theorem gm_gX4_find : gm_Tok gm_mX4_find := gm_Tok_of (by decide +kernel) rfl
theorem gm_dX4_coverFrom : ∀ q ∈ gm_cX4_coverFrom, decode cX4_coverFrom q.1 = .ok q.2 ∧ gm_lenok q.2.1 q.2.2 = true := by decide +kernel
theorem gm_eX4_coverFrom : gm_Cok gm_mX4_coverFrom := ⟨fun pc i len h => gm_dX4_coverFrom (pc, (i, len)) (gm_asc_mem h), gm_putb_of (by decide +kernel)⟩
theorem gm_gX4_coverFrom : gm_Tok gm_mX4_coverFrom := gm_Tok_of (by decide +kernel) rfl
theorem gm_dX4_makeAll : ∀ q ∈ gm_cX4_makeAll, decode cX4_makeAll q.1 = .ok q.2 ∧ gm_lenok q.2.1 q.2.2 = true := by decide +kernel
theorem gm_eX4_makeAll : gm_Cok gm_mX4_makeAll := ⟨fun pc i len h => gm_dX4_makeAll (pc, (i, len)) (gm_asc_mem h), gm_putb_of (by decide +kernel)⟩
theorem gm_gX4_makeAll : gm_Tok gm_mX4_makeAll := gm_Tok_of (by decide +kernel) rfl
theorem gm_dX4_makeNext : ∀ q ∈ gm_cX4_makeNext, decode cX4_makeNext q.1 = .ok q.2 ∧ gm_lenok q.2.1 q.2.2 = true := by decide +kernel
theorem gm_eX4_makeNext : gm_Cok gm_mX4_makeNext := ⟨fun pc i len h => gm_dX4_makeNext (pc, (i, len)) (gm_asc_mem h), gm_putb_of (by decide +kernel)⟩
theorem gm_gX4_makeNext : gm_Tok gm_mX4_makeNext := gm_Tok_of (by decide +kernel) rfl
theorem gm_dX4_reaches : ∀ q ∈ gm_cX4_reaches, decode cX4_reaches q.1 = .ok q.2 ∧ gm_lenok q.2.1 q.2.2 = true := by decide +kernel
theorem gm_eX4_reaches : gm_Cok gm_mX4_reaches := ⟨fun pc i len h => gm_dX4_reaches (pc, (i, len)) (gm_asc_mem h), gm_putb_of (by decide +kernel)⟩
theorem gm_gX4_reaches : gm_Tok gm_mX4_reaches := gm_Tok_of (by decide +kernel) rfl
theorem gm_dX4_reachesBelow : ∀ q ∈ gm_cX4_reachesBelow, decode cX4_reachesBelow q.1 = .ok q.2 ∧ gm_lenok q.2.1 q.2.2 = true := by decide +kernel
theorem gm_eX4_reachesBelow : gm_Cok gm_mX4_reachesBelow := ⟨fun pc i len h => gm_dX4_reachesBelow (pc, (i, len)) (gm_asc_mem h), gm_putb_of (by decide +kernel)⟩
theorem gm_gX4_reachesBelow : gm_Tok gm_mX4_reachesBelow := gm_Tok_of (by decide +kernel) rfl
theorem gm_dX5_init : ∀ q ∈ gm_cX5_init, decode cX5_init q.1 = .ok q.2 ∧ gm_lenok q.2.1 q.2.2 = true := by decide +kernel
theorem gm_eX5_init : gm_Cok gm_mX5_init := ⟨fun pc i len h => gm_dX5_init (pc, (i, len)) (gm_asc_mem h), gm_putb_of (by decide +kernel)⟩
theorem gm_gX5_init : gm_Tok gm_mX5_init := gm_Tok_of (by decide +kernel) rfl
theorem gm_dX5_partsOf : ∀ q ∈ gm_cX5_partsOf, decode cX5_partsOf q.1 = .ok q.2 ∧ gm_lenok q.2.1 q.2.2 = true := by decide +kernel
theorem gm_eX5_partsOf : gm_Cok gm_mX5_partsOf := ⟨fun pc i len h => gm_dX5_partsOf (pc, (i, len)) (gm_asc_mem h), gm_putb_of (by decide +kernel)⟩
theorem gm_gX5_partsOf : gm_Tok gm_mX5_partsOf := gm_Tok_of (by decide +kernel) rfl
theorem gm_dX5_length : ∀ q ∈ gm_cX5_length, decode cX5_length q.1 = .ok q.2 ∧ gm_lenok q.2.1 q.2.2 = true := by decide +kernel
theorem gm_eX5_length : gm_Cok gm_mX5_length := ⟨fun pc i len h => gm_dX5_length (pc, (i, len)) (gm_asc_mem h), gm_putb_of (by decide +kernel)⟩
theorem gm_gX5_length : gm_Tok gm_mX5_length := gm_Tok_of (by decide +kernel) rfl
theorem gm_dX5_clear : ∀ q ∈ gm_cX5_clear, decode cX5_clear q.1 = .ok q.2 ∧ gm_lenok q.2.1 q.2.2 = true := by decide +kernel
theorem gm_eX5_clear : gm_Cok gm_mX5_clear := ⟨fun pc i len h => gm_dX5_clear (pc, (i, len)) (gm_asc_mem h), gm_putb_of (by decide +kernel)⟩
theorem gm_gX5_clear : gm_Tok gm_mX5_clear := gm_Tok_of (by decide +kernel) rfl
theorem gm_dX5_rewind : ∀ q ∈ gm_cX5_rewind, decode cX5_rewind q.1 = .ok q.2 ∧ gm_lenok q.2.1 q.2.2 = true := by decide +kernel
theorem gm_eX5_rewind : gm_Cok gm_mX5_rewind := ⟨fun pc i len h => gm_dX5_rewind (pc, (i, len)) (gm_asc_mem h), gm_putb_of (by decide +kernel)⟩
theorem gm_gX5_rewind : gm_Tok gm_mX5_rewind := gm_Tok_of (by decide +kernel) rfl
theorem gm_dX5_read : ∀ q ∈ gm_cX5_read, decode cX5_read q.1 = .ok q.2 ∧ gm_lenok q.2.1 q.2.2 = true := by decide +kernel
theorem gm_eX5_read : gm_Cok gm_mX5_read := ⟨fun pc i len h => gm_dX5_read (pc, (i, len)) (gm_asc_mem h), gm_putb_of (by decide +kernel)⟩
theorem gm_gX5_read : gm_Tok gm_mX5_read := gm_Tok_of (by decide +kernel) rfl
theorem gm_dX5_at : ∀ q ∈ gm_cX5_at, decode cX5_at q.1 = .ok q.2 ∧ gm_lenok q.2.1 q.2.2 = true := by decide +kernel
theorem gm_eX5_at : gm_Cok gm_mX5_at := ⟨fun pc i len h => gm_dX5_at (pc, (i, len)) (gm_asc_mem h), gm_putb_of (by decide +kernel)⟩
theorem gm_gX5_at : gm_Tok gm_mX5_at := gm_Tok_of (by decide +kernel) rfl
theorem gm_dX5_put : ∀ q ∈ gm_cX5_put, decode cX5_put q.1 = .ok q.2 ∧ gm_lenok q.2.1 q.2.2 = true := by decide +kernel
theorem gm_eX5_put : gm_Cok gm_mX5_put := ⟨fun pc i len h => gm_dX5_put (pc, (i, len)) (gm_asc_mem h), gm_putb_of (by decide +kernel)⟩
theorem gm_gX5_put : gm_Tok gm_mX5_put := gm_Tok_of (by decide +kernel) rfl
theorem gm_dX5_putPart : ∀ q ∈ gm_cX5_putPart, decode cX5_putPart q.1 = .ok q.2 ∧ gm_lenok q.2.1 q.2.2 = true := by decide +kernel
theorem gm_eX5_putPart : gm_Cok gm_mX5_putPart := ⟨fun pc i len h => gm_dX5_putPart (pc, (i, len)) (gm_asc_mem h), gm_putb_of (by decide +kernel)⟩
theorem gm_gX5_putPart : gm_Tok gm_mX5_putPart := gm_Tok_of (by decide +kernel) rfl
theorem gm_dX5_measure : ∀ q ∈ gm_cX5_measure, decode cX5_measure q.1 = .ok q.2 ∧ gm_lenok q.2.1 q.2.2 = true := by decide +kernel
theorem gm_eX5_measure : gm_Cok gm_mX5_measure := ⟨fun pc i len h => gm_dX5_measure (pc, (i, len)) (gm_asc_mem h), gm_putb_of (by decide +kernel)⟩
theorem gm_gX5_measure : gm_Tok gm_mX5_measure := gm_Tok_of (by decide +kernel) rfl
theorem gm_dX5_endOf : ∀ q ∈ gm_cX5_endOf, decode cX5_endOf q.1 = .ok q.2 ∧ gm_lenok q.2.1 q.2.2 = true := by decide +kernel
theorem gm_eX5_endOf : gm_Cok gm_mX5_endOf := ⟨fun pc i len h => gm_dX5_endOf (pc, (i, len)) (gm_asc_mem h), gm_putb_of (by decide +kernel)⟩
theorem gm_gX5_endOf : gm_Tok gm_mX5_endOf := gm_Tok_of (by decide +kernel) rfl
theorem gm_dX5_isSame : ∀ q ∈ gm_cX5_isSame, decode cX5_isSame q.1 = .ok q.2 ∧ gm_lenok q.2.1 q.2.2 = true := by decide +kernel
theorem gm_eX5_isSame : gm_Cok gm_mX5_isSame := ⟨fun pc i len h => gm_dX5_isSame (pc, (i, len)) (gm_asc_mem h), gm_putb_of (by decide +kernel)⟩
theorem gm_gX5_isSame : gm_Tok gm_mX5_isSame := gm_Tok_of (by decide +kernel) rfl
theorem gm_dX6_init : ∀ q ∈ gm_cX6_init, decode cX6_init q.1 = .ok q.2 ∧ gm_lenok q.2.1 q.2.2 = true := by decide +kernel
theorem gm_eX6_init : gm_Cok gm_mX6_init := ⟨fun pc i len h => gm_dX6_init (pc, (i, len)) (gm_asc_mem h), gm_putb_of (by decide +kernel)⟩
theorem gm_gX6_init : gm_Tok gm_mX6_init := gm_Tok_of (by decide +kernel) rfl
theorem gm_dX6_letter : ∀ q ∈ gm_cX6_letter, decode cX6_letter q.1 = .ok q.2 ∧ gm_lenok q.2.1 q.2.2 = true := by decide +kernel
theorem gm_eX6_letter : gm_Cok gm_mX6_letter := ⟨fun pc i len h => gm_dX6_letter (pc, (i, len)) (gm_asc_mem h), gm_putb_of (by decide +kernel)⟩
theorem gm_gX6_letter : gm_Tok gm_mX6_letter := gm_Tok_of (by decide +kernel) rfl
theorem gm_dX6_empty : ∀ q ∈ gm_cX6_empty, decode cX6_empty q.1 = .ok q.2 ∧ gm_lenok q.2.1 q.2.2 = true := by decide +kernel
theorem gm_eX6_empty : gm_Cok gm_mX6_empty := ⟨fun pc i len h => gm_dX6_empty (pc, (i, len)) (gm_asc_mem h), gm_putb_of (by decide +kernel)⟩
theorem gm_gX6_empty : gm_Tok gm_mX6_empty := gm_Tok_of (by decide +kernel) rfl
theorem gm_dX6_universe : ∀ q ∈ gm_cX6_universe, decode cX6_universe q.1 = .ok q.2 ∧ gm_lenok q.2.1 q.2.2 = true := by decide +kernel
theorem gm_eX6_universe : gm_Cok gm_mX6_universe := ⟨fun pc i len h => gm_dX6_universe (pc, (i, len)) (gm_asc_mem h), gm_putb_of (by decide +kernel)⟩
theorem gm_gX6_universe : gm_Tok gm_mX6_universe := gm_Tok_of (by decide +kernel) rfl
theorem gm_dX6_complement : ∀ q ∈ gm_cX6_complement, decode cX6_complement q.1 = .ok q.2 ∧ gm_lenok q.2.1 q.2.2 = true := by decide +kernel
theorem gm_eX6_complement : gm_Cok gm_mX6_complement := ⟨fun pc i len h => gm_dX6_complement (pc, (i, len)) (gm_asc_mem h), gm_putb_of (by decide +kernel)⟩
theorem gm_gX6_complement : gm_Tok gm_mX6_complement := gm_Tok_of (by decide +kernel) rfl
theorem gm_dX6_union : ∀ q ∈ gm_cX6_union, decode cX6_union q.1 = .ok q.2 ∧ gm_lenok q.2.1 q.2.2 = true := by decide +kernel
theorem gm_eX6_union : gm_Cok gm_mX6_union := ⟨fun pc i len h => gm_dX6_union (pc, (i, len)) (gm_asc_mem h), gm_putb_of (by decide +kernel)⟩
theorem gm_gX6_union : gm_Tok gm_mX6_union := gm_Tok_of (by decide +kernel) rfl
theorem gm_dX6_intersection : ∀ q ∈ gm_cX6_intersection, decode cX6_intersection q.1 = .ok q.2 ∧ gm_lenok q.2.1 q.2.2 = true := by decide +kernel
theorem gm_eX6_intersection : gm_Cok gm_mX6_intersection := ⟨fun pc i len h => gm_dX6_intersection (pc, (i, len)) (gm_asc_mem h), gm_putb_of (by decide +kernel)⟩
theorem gm_gX6_intersection : gm_Tok gm_mX6_intersection := gm_Tok_of (by decide +kernel) rfl
theorem gm_dX6_difference : ∀ q ∈ gm_cX6_difference, decode cX6_difference q.1 = .ok q.2 ∧ gm_lenok q.2.1 q.2.2 = true := by decide +kernel
theorem gm_eX6_difference : gm_Cok gm_mX6_difference := ⟨fun pc i len h => gm_dX6_difference (pc, (i, len)) (gm_asc_mem h), gm_putb_of (by decide +kernel)⟩
theorem gm_gX6_difference : gm_Tok gm_mX6_difference := gm_Tok_of (by decide +kernel) rfl
theorem gm_dX6_symmetric : ∀ q ∈ gm_cX6_symmetric, decode cX6_symmetric q.1 = .ok q.2 ∧ gm_lenok q.2.1 q.2.2 = true := by decide +kernel
theorem gm_eX6_symmetric : gm_Cok gm_mX6_symmetric := ⟨fun pc i len h => gm_dX6_symmetric (pc, (i, len)) (gm_asc_mem h), gm_putb_of (by decide +kernel)⟩
theorem gm_gX6_symmetric : gm_Tok gm_mX6_symmetric := gm_Tok_of (by decide +kernel) rfl
theorem gm_dX6_terms : ∀ q ∈ gm_cX6_terms, decode cX6_terms q.1 = .ok q.2 ∧ gm_lenok q.2.1 q.2.2 = true := by decide +kernel
theorem gm_eX6_terms : gm_Cok gm_mX6_terms := ⟨fun pc i len h => gm_dX6_terms (pc, (i, len)) (gm_asc_mem h), gm_putb_of (by decide +kernel)⟩
theorem gm_gX6_terms : gm_Tok gm_mX6_terms := gm_Tok_of (by decide +kernel) rfl
theorem gm_dX6_size : ∀ q ∈ gm_cX6_size, decode cX6_size q.1 = .ok q.2 ∧ gm_lenok q.2.1 q.2.2 = true := by decide +kernel
theorem gm_eX6_size : gm_Cok gm_mX6_size := ⟨fun pc i len h => gm_dX6_size (pc, (i, len)) (gm_asc_mem h), gm_putb_of (by decide +kernel)⟩
theorem gm_gX6_size : gm_Tok gm_mX6_size := gm_Tok_of (by decide +kernel) rfl
theorem gm_dX6_symbol : ∀ q ∈ gm_cX6_symbol, decode cX6_symbol q.1 = .ok q.2 ∧ gm_lenok q.2.1 q.2.2 = true := by decide +kernel
theorem gm_eX6_symbol : gm_Cok gm_mX6_symbol := ⟨fun pc i len h => gm_dX6_symbol (pc, (i, len)) (gm_asc_mem h), gm_putb_of (by decide +kernel)⟩
theorem gm_gX6_symbol : gm_Tok gm_mX6_symbol := by
  refine ⟨fun pc k len E a b => ?_, fun q hq => (nomatch hq), fun z => absurd rfl z⟩
  have := gm_sites_mem (ex := gm_mX6_symbol.2.2.2.2.2.2.2.2.2.2.2) (gm_asc_mem a) b
  rw [show gm_sites gm_mX6_symbol.2.2.2.2.2.2.2.2.2.2.2 gm_mX6_symbol.2.2.2.2.2.1 = [(21, 69, "java/util/NoSuchElementException")] by decide +kernel] at this
  cases List.mem_singleton.mp this
  exact ⟨73, (71, "the term has no such symbol"), List.mem_of_getElem? (i := 0) rfl, rfl, gm_E73, (gm_dX6_symbol _ (List.mem_of_getElem? (i := 11) rfl)).1, (gm_dX6_symbol _ (List.mem_of_getElem? (i := 12) rfl)).1, Or.inl ⟨(gm_dX6_symbol _ (List.mem_of_getElem? (i := 13) rfl)).1, (gm_dX6_symbol _ (List.mem_of_getElem? (i := 14) rfl)).1, (gm_dX6_symbol _ (List.mem_of_getElem? (i := 15) rfl)).1⟩⟩
theorem gm_dX6_makePair : ∀ q ∈ gm_cX6_makePair, decode cX6_makePair q.1 = .ok q.2 ∧ gm_lenok q.2.1 q.2.2 = true := by decide +kernel
theorem gm_eX6_makePair : gm_Cok gm_mX6_makePair := ⟨fun pc i len h => gm_dX6_makePair (pc, (i, len)) (gm_asc_mem h), gm_putb_of (by decide +kernel)⟩
theorem gm_gX6_makePair : gm_Tok gm_mX6_makePair := gm_Tok_of (by decide +kernel) rfl
theorem gm_dX6_madeOrThrow : ∀ q ∈ gm_cX6_madeOrThrow, decode cX6_madeOrThrow q.1 = .ok q.2 ∧ gm_lenok q.2.1 q.2.2 = true := by decide +kernel
theorem gm_eX6_madeOrThrow : gm_Cok gm_mX6_madeOrThrow := ⟨fun pc i len h => gm_dX6_madeOrThrow (pc, (i, len)) (gm_asc_mem h), gm_putb_of (by decide +kernel)⟩
theorem gm_gX6_madeOrThrow : gm_Tok gm_mX6_madeOrThrow := by
  refine ⟨fun pc k len E a b => ?_, fun q hq => (nomatch hq), fun z => absurd rfl z⟩
  have := gm_sites_mem (ex := gm_mX6_madeOrThrow.2.2.2.2.2.2.2.2.2.2.2) (gm_asc_mem a) b
  rw [show gm_sites gm_mX6_madeOrThrow.2.2.2.2.2.2.2.2.2.2.2 gm_mX6_madeOrThrow.2.2.2.2.2.1 = [(5, 80, "java/lang/IllegalStateException")] by decide +kernel] at this
  cases List.mem_singleton.mp this
  exact ⟨84, (82, "the term can't be made"), List.mem_of_getElem? (i := 1) rfl, rfl, gm_E84, (gm_dX6_madeOrThrow _ (List.mem_of_getElem? (i := 3) rfl)).1, (gm_dX6_madeOrThrow _ (List.mem_of_getElem? (i := 4) rfl)).1, Or.inl ⟨(gm_dX6_madeOrThrow _ (List.mem_of_getElem? (i := 5) rfl)).1, (gm_dX6_madeOrThrow _ (List.mem_of_getElem? (i := 6) rfl)).1, (gm_dX6_madeOrThrow _ (List.mem_of_getElem? (i := 7) rfl)).1⟩⟩
theorem gm_dX6_checkTerm : ∀ q ∈ gm_cX6_checkTerm, decode cX6_checkTerm q.1 = .ok q.2 ∧ gm_lenok q.2.1 q.2.2 = true := by decide +kernel
theorem gm_eX6_checkTerm : gm_Cok gm_mX6_checkTerm := ⟨fun pc i len h => gm_dX6_checkTerm (pc, (i, len)) (gm_asc_mem h), gm_putb_of (by decide +kernel)⟩
theorem gm_gX6_checkTerm : gm_Tok gm_mX6_checkTerm := by
  refine ⟨fun pc k len E a b => ?_, fun q hq => (nomatch hq), fun z => absurd rfl z⟩
  have := gm_sites_mem (ex := gm_mX6_checkTerm.2.2.2.2.2.2.2.2.2.2.2) (gm_asc_mem a) b
  rw [show gm_sites gm_mX6_checkTerm.2.2.2.2.2.2.2.2.2.2.2 gm_mX6_checkTerm.2.2.2.2.2.1 = [(11, 89, "java/lang/IndexOutOfBoundsException")] by decide +kernel] at this
  cases List.mem_singleton.mp this
  exact ⟨93, (91, "there is no such term"), List.mem_of_getElem? (i := 2) rfl, rfl, gm_E93, (gm_dX6_checkTerm _ (List.mem_of_getElem? (i := 5) rfl)).1, (gm_dX6_checkTerm _ (List.mem_of_getElem? (i := 6) rfl)).1, Or.inl ⟨(gm_dX6_checkTerm _ (List.mem_of_getElem? (i := 7) rfl)).1, (gm_dX6_checkTerm _ (List.mem_of_getElem? (i := 8) rfl)).1, (gm_dX6_checkTerm _ (List.mem_of_getElem? (i := 9) rfl)).1⟩⟩
theorem gm_dX6_checkLetter : ∀ q ∈ gm_cX6_checkLetter, decode cX6_checkLetter q.1 = .ok q.2 ∧ gm_lenok q.2.1 q.2.2 = true := by decide +kernel
theorem gm_eX6_checkLetter : gm_Cok gm_mX6_checkLetter := ⟨fun pc i len h => gm_dX6_checkLetter (pc, (i, len)) (gm_asc_mem h), gm_putb_of (by decide +kernel)⟩
theorem gm_gX6_checkLetter : gm_Tok gm_mX6_checkLetter := by
  refine ⟨fun pc k len E a b => ?_, fun q hq => (nomatch hq), fun z => absurd rfl z⟩
  have := gm_sites_mem (ex := gm_mX6_checkLetter.2.2.2.2.2.2.2.2.2.2.2) (gm_asc_mem a) b
  rw [show gm_sites gm_mX6_checkLetter.2.2.2.2.2.2.2.2.2.2.2 gm_mX6_checkLetter.2.2.2.2.2.1 = [(9, 94, "java/lang/IllegalArgumentException")] by decide +kernel] at this
  cases List.mem_singleton.mp this
  exact ⟨98, (96, "a letter is between 0 and 3"), List.mem_of_getElem? (i := 3) rfl, rfl, gm_E98, (gm_dX6_checkLetter _ (List.mem_of_getElem? (i := 5) rfl)).1, (gm_dX6_checkLetter _ (List.mem_of_getElem? (i := 6) rfl)).1, Or.inl ⟨(gm_dX6_checkLetter _ (List.mem_of_getElem? (i := 7) rfl)).1, (gm_dX6_checkLetter _ (List.mem_of_getElem? (i := 8) rfl)).1, (gm_dX6_checkLetter _ (List.mem_of_getElem? (i := 9) rfl)).1⟩⟩
theorem gm_dX6_checkRegion : ∀ q ∈ gm_cX6_checkRegion, decode cX6_checkRegion q.1 = .ok q.2 ∧ gm_lenok q.2.1 q.2.2 = true := by decide +kernel
theorem gm_eX6_checkRegion : gm_Cok gm_mX6_checkRegion := ⟨fun pc i len h => gm_dX6_checkRegion (pc, (i, len)) (gm_asc_mem h), gm_putb_of (by decide +kernel)⟩
theorem gm_gX6_checkRegion : gm_Tok gm_mX6_checkRegion := by
  refine ⟨fun pc k len E a b => ?_, fun q hq => (nomatch hq), fun z => absurd rfl z⟩
  have := gm_sites_mem (ex := gm_mX6_checkRegion.2.2.2.2.2.2.2.2.2.2.2) (gm_asc_mem a) b
  rw [show gm_sites gm_mX6_checkRegion.2.2.2.2.2.2.2.2.2.2.2 gm_mX6_checkRegion.2.2.2.2.2.1 = [(10, 94, "java/lang/IllegalArgumentException")] by decide +kernel] at this
  cases List.mem_singleton.mp this
  exact ⟨98, (99, "a region is between 0 and 15"), List.mem_of_getElem? (i := 4) rfl, rfl, gm_E98, (gm_dX6_checkRegion _ (List.mem_of_getElem? (i := 5) rfl)).1, (gm_dX6_checkRegion _ (List.mem_of_getElem? (i := 6) rfl)).1, Or.inl ⟨(gm_dX6_checkRegion _ (List.mem_of_getElem? (i := 7) rfl)).1, (gm_dX6_checkRegion _ (List.mem_of_getElem? (i := 8) rfl)).1, (gm_dX6_checkRegion _ (List.mem_of_getElem? (i := 9) rfl)).1⟩⟩
theorem gm_dX6_regions : ∀ q ∈ gm_cX6_regions, decode cX6_regions q.1 = .ok q.2 ∧ gm_lenok q.2.1 q.2.2 = true := by decide +kernel
theorem gm_eX6_regions : gm_Cok gm_mX6_regions := ⟨fun pc i len h => gm_dX6_regions (pc, (i, len)) (gm_asc_mem h), gm_putb_of (by decide +kernel)⟩
theorem gm_gX6_regions : gm_Tok gm_mX6_regions := gm_Tok_of (by decide +kernel) rfl
theorem gm_dX6_covers : ∀ q ∈ gm_cX6_covers, decode cX6_covers q.1 = .ok q.2 ∧ gm_lenok q.2.1 q.2.2 = true := by decide +kernel
theorem gm_eX6_covers : gm_Cok gm_mX6_covers := ⟨fun pc i len h => gm_dX6_covers (pc, (i, len)) (gm_asc_mem h), gm_putb_of (by decide +kernel)⟩
theorem gm_gX6_covers : gm_Tok gm_mX6_covers := gm_Tok_of (by decide +kernel) rfl
theorem gm_dX6_coversByTerm : ∀ q ∈ gm_cX6_coversByTerm, decode cX6_coversByTerm q.1 = .ok q.2 ∧ gm_lenok q.2.1 q.2.2 = true := by decide +kernel
theorem gm_eX6_coversByTerm : gm_Cok gm_mX6_coversByTerm := ⟨fun pc i len h => gm_dX6_coversByTerm (pc, (i, len)) (gm_asc_mem h), gm_putb_of (by decide +kernel)⟩
theorem gm_gX6_coversByTerm : gm_Tok gm_mX6_coversByTerm := gm_Tok_of (by decide +kernel) rfl
theorem gm_dX6_isEqual : ∀ q ∈ gm_cX6_isEqual, decode cX6_isEqual q.1 = .ok q.2 ∧ gm_lenok q.2.1 q.2.2 = true := by decide +kernel
theorem gm_eX6_isEqual : gm_Cok gm_mX6_isEqual := ⟨fun pc i len h => gm_dX6_isEqual (pc, (i, len)) (gm_asc_mem h), gm_putb_of (by decide +kernel)⟩
theorem gm_gX6_isEqual : gm_Tok gm_mX6_isEqual := gm_Tok_of (by decide +kernel) rfl
theorem gm_dX6_isIn : ∀ q ∈ gm_cX6_isIn, decode cX6_isIn q.1 = .ok q.2 ∧ gm_lenok q.2.1 q.2.2 = true := by decide +kernel
theorem gm_eX6_isIn : gm_Cok gm_mX6_isIn := ⟨fun pc i len h => gm_dX6_isIn (pc, (i, len)) (gm_asc_mem h), gm_putb_of (by decide +kernel)⟩
theorem gm_gX6_isIn : gm_Tok gm_mX6_isIn := gm_Tok_of (by decide +kernel) rfl
theorem gm_dX6_rule : ∀ q ∈ gm_cX6_rule, decode cX6_rule q.1 = .ok q.2 ∧ gm_lenok q.2.1 q.2.2 = true := by decide +kernel
theorem gm_eX6_rule : gm_Cok gm_mX6_rule := ⟨fun pc i len h => gm_dX6_rule (pc, (i, len)) (gm_asc_mem h), gm_putb_of (by decide +kernel)⟩
theorem gm_gX6_rule : gm_Tok gm_mX6_rule := gm_Tok_of (by decide +kernel) rfl
theorem gm_dX6_step : ∀ q ∈ gm_cX6_step, decode cX6_step q.1 = .ok q.2 ∧ gm_lenok q.2.1 q.2.2 = true := by decide +kernel
theorem gm_eX6_step : gm_Cok gm_mX6_step := ⟨fun pc i len h => gm_dX6_step (pc, (i, len)) (gm_asc_mem h), gm_putb_of (by decide +kernel)⟩
theorem gm_gX6_step : gm_Tok gm_mX6_step := gm_Tok_of (by decide +kernel) rfl
theorem gm_dX6_steps : ∀ q ∈ gm_cX6_steps, decode cX6_steps q.1 = .ok q.2 ∧ gm_lenok q.2.1 q.2.2 = true := by decide +kernel
theorem gm_eX6_steps : gm_Cok gm_mX6_steps := ⟨fun pc i len h => gm_dX6_steps (pc, (i, len)) (gm_asc_mem h), gm_putb_of (by decide +kernel)⟩
theorem gm_gX6_steps : gm_Tok gm_mX6_steps := gm_Tok_of (by decide +kernel) rfl
theorem gm_dX6_normalForm : ∀ q ∈ gm_cX6_normalForm, decode cX6_normalForm q.1 = .ok q.2 ∧ gm_lenok q.2.1 q.2.2 = true := by decide +kernel
theorem gm_eX6_normalForm : gm_Cok gm_mX6_normalForm := ⟨fun pc i len h => gm_dX6_normalForm (pc, (i, len)) (gm_asc_mem h), gm_putb_of (by decide +kernel)⟩
theorem gm_gX6_normalForm : gm_Tok gm_mX6_normalForm := gm_Tok_of (by decide +kernel) rfl
theorem gm_dX6_primes : ∀ q ∈ gm_cX6_primes, decode cX6_primes q.1 = .ok q.2 ∧ gm_lenok q.2.1 q.2.2 = true := by decide +kernel
theorem gm_eX6_primes : gm_Cok gm_mX6_primes := ⟨fun pc i len h => gm_dX6_primes (pc, (i, len)) (gm_asc_mem h), gm_putb_of (by decide +kernel)⟩
theorem gm_gX6_primes : gm_Tok gm_mX6_primes := gm_Tok_of (by decide +kernel) rfl
theorem gm_dX6_primesByTrying : ∀ q ∈ gm_cX6_primesByTrying, decode cX6_primesByTrying q.1 = .ok q.2 ∧ gm_lenok q.2.1 q.2.2 = true := by decide +kernel
theorem gm_eX6_primesByTrying : gm_Cok gm_mX6_primesByTrying := ⟨fun pc i len h => gm_dX6_primesByTrying (pc, (i, len)) (gm_asc_mem h), gm_putb_of (by decide +kernel)⟩
theorem gm_gX6_primesByTrying : gm_Tok gm_mX6_primesByTrying := gm_Tok_of (by decide +kernel) rfl
theorem gm_dX6_prime : ∀ q ∈ gm_cX6_prime, decode cX6_prime q.1 = .ok q.2 ∧ gm_lenok q.2.1 q.2.2 = true := by decide +kernel
theorem gm_eX6_prime : gm_Cok gm_mX6_prime := ⟨fun pc i len h => gm_dX6_prime (pc, (i, len)) (gm_asc_mem h), gm_putb_of (by decide +kernel)⟩
theorem gm_gX6_prime : gm_Tok gm_mX6_prime := by
  refine ⟨fun pc k len E a b => ?_, fun q hq => (nomatch hq), fun z => absurd rfl z⟩
  have := gm_sites_mem (ex := gm_mX6_prime.2.2.2.2.2.2.2.2.2.2.2) (gm_asc_mem a) b
  rw [show gm_sites gm_mX6_prime.2.2.2.2.2.2.2.2.2.2.2 gm_mX6_prime.2.2.2.2.2.1 = [(36, 69, "java/util/NoSuchElementException")] by decide +kernel] at this
  cases List.mem_singleton.mp this
  exact ⟨73, (158, "the term has no such prime implicant"), List.mem_of_getElem? (i := 5) rfl, rfl, gm_E73, (gm_dX6_prime _ (List.mem_of_getElem? (i := 18) rfl)).1, (gm_dX6_prime _ (List.mem_of_getElem? (i := 19) rfl)).1, Or.inl ⟨(gm_dX6_prime _ (List.mem_of_getElem? (i := 20) rfl)).1, (gm_dX6_prime _ (List.mem_of_getElem? (i := 21) rfl)).1, (gm_dX6_prime _ (List.mem_of_getElem? (i := 22) rfl)).1⟩⟩
theorem gm_dX6_ruleOrThrow : ∀ q ∈ gm_cX6_ruleOrThrow, decode cX6_ruleOrThrow q.1 = .ok q.2 ∧ gm_lenok q.2.1 q.2.2 = true := by decide +kernel
theorem gm_eX6_ruleOrThrow : gm_Cok gm_mX6_ruleOrThrow := ⟨fun pc i len h => gm_dX6_ruleOrThrow (pc, (i, len)) (gm_asc_mem h), gm_putb_of (by decide +kernel)⟩
theorem gm_gX6_ruleOrThrow : gm_Tok gm_mX6_ruleOrThrow := by
  refine ⟨fun pc k len E a b => ?_, fun q hq => (nomatch hq), fun z => absurd rfl z⟩
  have := gm_sites_mem (ex := gm_mX6_ruleOrThrow.2.2.2.2.2.2.2.2.2.2.2) (gm_asc_mem a) b
  rw [show gm_sites gm_mX6_ruleOrThrow.2.2.2.2.2.2.2.2.2.2.2 gm_mX6_ruleOrThrow.2.2.2.2.2.1 = [(10, 69, "java/util/NoSuchElementException")] by decide +kernel] at this
  cases List.mem_singleton.mp this
  exact ⟨73, (163, "no rule can rewrite anything in the term"), List.mem_of_getElem? (i := 6) rfl, rfl, gm_E73, (gm_dX6_ruleOrThrow _ (List.mem_of_getElem? (i := 4) rfl)).1, (gm_dX6_ruleOrThrow _ (List.mem_of_getElem? (i := 5) rfl)).1, Or.inl ⟨(gm_dX6_ruleOrThrow _ (List.mem_of_getElem? (i := 6) rfl)).1, (gm_dX6_ruleOrThrow _ (List.mem_of_getElem? (i := 7) rfl)).1, (gm_dX6_ruleOrThrow _ (List.mem_of_getElem? (i := 8) rfl)).1⟩⟩
theorem gm_dX6_rewriteOrThrow : ∀ q ∈ gm_cX6_rewriteOrThrow, decode cX6_rewriteOrThrow q.1 = .ok q.2 ∧ gm_lenok q.2.1 q.2.2 = true := by decide +kernel
theorem gm_eX6_rewriteOrThrow : gm_Cok gm_mX6_rewriteOrThrow := ⟨fun pc i len h => gm_dX6_rewriteOrThrow (pc, (i, len)) (gm_asc_mem h), gm_putb_of (by decide +kernel)⟩
theorem gm_gX6_rewriteOrThrow : gm_Tok gm_mX6_rewriteOrThrow := by
  refine ⟨fun pc k len E a b => ?_, fun q hq => (nomatch hq), fun z => absurd rfl z⟩
  have := gm_sites_mem (ex := gm_mX6_rewriteOrThrow.2.2.2.2.2.2.2.2.2.2.2) (gm_asc_mem a) b
  rw [show gm_sites gm_mX6_rewriteOrThrow.2.2.2.2.2.2.2.2.2.2.2 gm_mX6_rewriteOrThrow.2.2.2.2.2.1 = [(10, 168, "java/lang/UnsupportedOperationException")] by decide +kernel] at this
  cases List.mem_singleton.mp this
  exact ⟨172, (170, "the step can't be made"), List.mem_of_getElem? (i := 7) rfl, rfl, gm_E172, (gm_dX6_rewriteOrThrow _ (List.mem_of_getElem? (i := 4) rfl)).1, (gm_dX6_rewriteOrThrow _ (List.mem_of_getElem? (i := 5) rfl)).1, Or.inl ⟨(gm_dX6_rewriteOrThrow _ (List.mem_of_getElem? (i := 6) rfl)).1, (gm_dX6_rewriteOrThrow _ (List.mem_of_getElem? (i := 7) rfl)).1, (gm_dX6_rewriteOrThrow _ (List.mem_of_getElem? (i := 8) rfl)).1⟩⟩
theorem gm_dX6_assume : ∀ q ∈ gm_cX6_assume, decode cX6_assume q.1 = .ok q.2 ∧ gm_lenok q.2.1 q.2.2 = true := by decide +kernel
theorem gm_eX6_assume : gm_Cok gm_mX6_assume := ⟨fun pc i len h => gm_dX6_assume (pc, (i, len)) (gm_asc_mem h), gm_putb_of (by decide +kernel)⟩
theorem gm_gX6_assume : gm_Tok gm_mX6_assume := by
  refine ⟨fun pc k len E a b => ?_, fun q hq => (nomatch hq), fun z => absurd rfl z⟩
  have := gm_sites_mem (ex := gm_mX6_assume.2.2.2.2.2.2.2.2.2.2.2) (gm_asc_mem a) b
  rw [show gm_sites gm_mX6_assume.2.2.2.2.2.2.2.2.2.2.2 gm_mX6_assume.2.2.2.2.2.1 = [(19, 80, "java/lang/IllegalStateException")] by decide +kernel] at this
  cases List.mem_singleton.mp this
  exact ⟨84, (178, "there are 6 assumptions"), List.mem_of_getElem? (i := 8) rfl, rfl, gm_E84, (gm_dX6_assume _ (List.mem_of_getElem? (i := 10) rfl)).1, (gm_dX6_assume _ (List.mem_of_getElem? (i := 11) rfl)).1, Or.inl ⟨(gm_dX6_assume _ (List.mem_of_getElem? (i := 12) rfl)).1, (gm_dX6_assume _ (List.mem_of_getElem? (i := 13) rfl)).1, (gm_dX6_assume _ (List.mem_of_getElem? (i := 14) rfl)).1⟩⟩
theorem gm_dX6_drop : ∀ q ∈ gm_cX6_drop, decode cX6_drop q.1 = .ok q.2 ∧ gm_lenok q.2.1 q.2.2 = true := by decide +kernel
theorem gm_eX6_drop : gm_Cok gm_mX6_drop := ⟨fun pc i len h => gm_dX6_drop (pc, (i, len)) (gm_asc_mem h), gm_putb_of (by decide +kernel)⟩
theorem gm_gX6_drop : gm_Tok gm_mX6_drop := by
  refine ⟨fun pc k len E a b => ?_, fun q hq => (nomatch hq), fun z => absurd rfl z⟩
  have := gm_sites_mem (ex := gm_mX6_drop.2.2.2.2.2.2.2.2.2.2.2) (gm_asc_mem a) b
  rw [show gm_sites gm_mX6_drop.2.2.2.2.2.2.2.2.2.2.2 gm_mX6_drop.2.2.2.2.2.1 = [(10, 80, "java/lang/IllegalStateException")] by decide +kernel] at this
  cases List.mem_singleton.mp this
  exact ⟨84, (191, "there is no assumption"), List.mem_of_getElem? (i := 9) rfl, rfl, gm_E84, (gm_dX6_drop _ (List.mem_of_getElem? (i := 4) rfl)).1, (gm_dX6_drop _ (List.mem_of_getElem? (i := 5) rfl)).1, Or.inl ⟨(gm_dX6_drop _ (List.mem_of_getElem? (i := 6) rfl)).1, (gm_dX6_drop _ (List.mem_of_getElem? (i := 7) rfl)).1, (gm_dX6_drop _ (List.mem_of_getElem? (i := 8) rfl)).1⟩⟩
theorem gm_dX6_assumptions : ∀ q ∈ gm_cX6_assumptions, decode cX6_assumptions q.1 = .ok q.2 ∧ gm_lenok q.2.1 q.2.2 = true := by decide +kernel
theorem gm_eX6_assumptions : gm_Cok gm_mX6_assumptions := ⟨fun pc i len h => gm_dX6_assumptions (pc, (i, len)) (gm_asc_mem h), gm_putb_of (by decide +kernel)⟩
theorem gm_gX6_assumptions : gm_Tok gm_mX6_assumptions := gm_Tok_of (by decide +kernel) rfl
theorem gm_dX6_setGoal : ∀ q ∈ gm_cX6_setGoal, decode cX6_setGoal q.1 = .ok q.2 ∧ gm_lenok q.2.1 q.2.2 = true := by decide +kernel
theorem gm_eX6_setGoal : gm_Cok gm_mX6_setGoal := ⟨fun pc i len h => gm_dX6_setGoal (pc, (i, len)) (gm_asc_mem h), gm_putb_of (by decide +kernel)⟩
theorem gm_gX6_setGoal : gm_Tok gm_mX6_setGoal := gm_Tok_of (by decide +kernel) rfl
theorem gm_dX6_isConsistent : ∀ q ∈ gm_cX6_isConsistent, decode cX6_isConsistent q.1 = .ok q.2 ∧ gm_lenok q.2.1 q.2.2 = true := by decide +kernel
theorem gm_eX6_isConsistent : gm_Cok gm_mX6_isConsistent := ⟨fun pc i len h => gm_dX6_isConsistent (pc, (i, len)) (gm_asc_mem h), gm_putb_of (by decide +kernel)⟩
theorem gm_gX6_isConsistent : gm_Tok gm_mX6_isConsistent := gm_Tok_of (by decide +kernel) rfl
theorem gm_dX6_deniedBy : ∀ q ∈ gm_cX6_deniedBy, decode cX6_deniedBy q.1 = .ok q.2 ∧ gm_lenok q.2.1 q.2.2 = true := by decide +kernel
theorem gm_eX6_deniedBy : gm_Cok gm_mX6_deniedBy := ⟨fun pc i len h => gm_dX6_deniedBy (pc, (i, len)) (gm_asc_mem h), gm_putb_of (by decide +kernel)⟩
theorem gm_gX6_deniedBy : gm_Tok gm_mX6_deniedBy := by
  refine ⟨fun pc k len E a b => ?_, fun q hq => (nomatch hq), fun z => absurd rfl z⟩
  have := gm_sites_mem (ex := gm_mX6_deniedBy.2.2.2.2.2.2.2.2.2.2.2) (gm_asc_mem a) b
  rw [show gm_sites gm_mX6_deniedBy.2.2.2.2.2.2.2.2.2.2.2 gm_mX6_deniedBy.2.2.2.2.2.1 = [(19, 69, "java/util/NoSuchElementException")] by decide +kernel] at this
  cases List.mem_singleton.mp this
  exact ⟨73, (208, "no assumption denies the region"), List.mem_of_getElem? (i := 10) rfl, rfl, gm_E73, (gm_dX6_deniedBy _ (List.mem_of_getElem? (i := 11) rfl)).1, (gm_dX6_deniedBy _ (List.mem_of_getElem? (i := 12) rfl)).1, Or.inl ⟨(gm_dX6_deniedBy _ (List.mem_of_getElem? (i := 13) rfl)).1, (gm_dX6_deniedBy _ (List.mem_of_getElem? (i := 14) rfl)).1, (gm_dX6_deniedBy _ (List.mem_of_getElem? (i := 15) rfl)).1⟩⟩
theorem gm_dX6_follows : ∀ q ∈ gm_cX6_follows, decode cX6_follows q.1 = .ok q.2 ∧ gm_lenok q.2.1 q.2.2 = true := by decide +kernel
theorem gm_eX6_follows : gm_Cok gm_mX6_follows := ⟨fun pc i len h => gm_dX6_follows (pc, (i, len)) (gm_asc_mem h), gm_putb_of (by decide +kernel)⟩
theorem gm_gX6_follows : gm_Tok gm_mX6_follows := gm_Tok_of (by decide +kernel) rfl
theorem gm_dX6_why : ∀ q ∈ gm_cX6_why, decode cX6_why q.1 = .ok q.2 ∧ gm_lenok q.2.1 q.2.2 = true := by decide +kernel
theorem gm_eX6_why : gm_Cok gm_mX6_why := ⟨fun pc i len h => gm_dX6_why (pc, (i, len)) (gm_asc_mem h), gm_putb_of (by decide +kernel)⟩
theorem gm_gX6_why : gm_Tok gm_mX6_why := by
  refine ⟨fun pc k len E a b => ?_, fun q hq => (nomatch hq), fun z => absurd rfl z⟩
  have := gm_sites_mem (ex := gm_mX6_why.2.2.2.2.2.2.2.2.2.2.2) (gm_asc_mem a) b
  rw [show gm_sites gm_mX6_why.2.2.2.2.2.2.2.2.2.2.2 gm_mX6_why.2.2.2.2.2.1 = [(14, 69, "java/util/NoSuchElementException")] by decide +kernel] at this
  cases List.mem_singleton.mp this
  exact ⟨73, (216, "the goal does not follow"), List.mem_of_getElem? (i := 11) rfl, rfl, gm_E73, (gm_dX6_why _ (List.mem_of_getElem? (i := 6) rfl)).1, (gm_dX6_why _ (List.mem_of_getElem? (i := 7) rfl)).1, Or.inl ⟨(gm_dX6_why _ (List.mem_of_getElem? (i := 8) rfl)).1, (gm_dX6_why _ (List.mem_of_getElem? (i := 9) rfl)).1, (gm_dX6_why _ (List.mem_of_getElem? (i := 10) rfl)).1⟩⟩
theorem gm_dX6_witness : ∀ q ∈ gm_cX6_witness, decode cX6_witness q.1 = .ok q.2 ∧ gm_lenok q.2.1 q.2.2 = true := by decide +kernel
theorem gm_eX6_witness : gm_Cok gm_mX6_witness := ⟨fun pc i len h => gm_dX6_witness (pc, (i, len)) (gm_asc_mem h), gm_putb_of (by decide +kernel)⟩
theorem gm_gX6_witness : gm_Tok gm_mX6_witness := by
  refine ⟨fun pc k len E a b => ?_, fun q hq => (nomatch hq), fun z => absurd rfl z⟩
  have := gm_sites_mem (ex := gm_mX6_witness.2.2.2.2.2.2.2.2.2.2.2) (gm_asc_mem a) b
  rw [show gm_sites gm_mX6_witness.2.2.2.2.2.2.2.2.2.2.2 gm_mX6_witness.2.2.2.2.2.1 = [(14, 168, "java/lang/UnsupportedOperationException"), (37, 69, "java/util/NoSuchElementException")] by decide +kernel] at this
  rcases List.mem_cons.mp this with this | this
  · cases this
    exact ⟨172, (221, "the goal does not demand an element"), List.mem_of_getElem? (i := 12) rfl, rfl, gm_E172, (gm_dX6_witness _ (List.mem_of_getElem? (i := 6) rfl)).1, (gm_dX6_witness _ (List.mem_of_getElem? (i := 7) rfl)).1, Or.inl ⟨(gm_dX6_witness _ (List.mem_of_getElem? (i := 8) rfl)).1, (gm_dX6_witness _ (List.mem_of_getElem? (i := 9) rfl)).1, (gm_dX6_witness _ (List.mem_of_getElem? (i := 10) rfl)).1⟩⟩
  cases List.mem_singleton.mp this
  exact ⟨73, (226, "there is no witness"), List.mem_of_getElem? (i := 13) rfl, rfl, gm_E73, (gm_dX6_witness _ (List.mem_of_getElem? (i := 18) rfl)).1, (gm_dX6_witness _ (List.mem_of_getElem? (i := 19) rfl)).1, Or.inl ⟨(gm_dX6_witness _ (List.mem_of_getElem? (i := 20) rfl)).1, (gm_dX6_witness _ (List.mem_of_getElem? (i := 21) rfl)).1, (gm_dX6_witness _ (List.mem_of_getElem? (i := 22) rfl)).1⟩⟩
theorem gm_dX6_checkStatement : ∀ q ∈ gm_cX6_checkStatement, decode cX6_checkStatement q.1 = .ok q.2 ∧ gm_lenok q.2.1 q.2.2 = true := by decide +kernel
theorem gm_eX6_checkStatement : gm_Cok gm_mX6_checkStatement := ⟨fun pc i len h => gm_dX6_checkStatement (pc, (i, len)) (gm_asc_mem h), gm_putb_of (by decide +kernel)⟩
theorem gm_gX6_checkStatement : gm_Tok gm_mX6_checkStatement := by
  refine ⟨fun pc k len E a b => ?_, fun q hq => (nomatch hq), fun z => absurd rfl z⟩
  have := gm_sites_mem (ex := gm_mX6_checkStatement.2.2.2.2.2.2.2.2.2.2.2) (gm_asc_mem a) b
  rw [show gm_sites gm_mX6_checkStatement.2.2.2.2.2.2.2.2.2.2.2 gm_mX6_checkStatement.2.2.2.2.2.1 = [(14, 94, "java/lang/IllegalArgumentException")] by decide +kernel] at this
  cases List.mem_singleton.mp this
  exact ⟨98, (231, "there is no such kind"), List.mem_of_getElem? (i := 14) rfl, rfl, gm_E98, (gm_dX6_checkStatement _ (List.mem_of_getElem? (i := 6) rfl)).1, (gm_dX6_checkStatement _ (List.mem_of_getElem? (i := 7) rfl)).1, Or.inl ⟨(gm_dX6_checkStatement _ (List.mem_of_getElem? (i := 8) rfl)).1, (gm_dX6_checkStatement _ (List.mem_of_getElem? (i := 9) rfl)).1, (gm_dX6_checkStatement _ (List.mem_of_getElem? (i := 10) rfl)).1⟩⟩
theorem gm_dX6_checkGoal : ∀ q ∈ gm_cX6_checkGoal, decode cX6_checkGoal q.1 = .ok q.2 ∧ gm_lenok q.2.1 q.2.2 = true := by decide +kernel
theorem gm_eX6_checkGoal : gm_Cok gm_mX6_checkGoal := ⟨fun pc i len h => gm_dX6_checkGoal (pc, (i, len)) (gm_asc_mem h), gm_putb_of (by decide +kernel)⟩
theorem gm_gX6_checkGoal : gm_Tok gm_mX6_checkGoal := by
  refine ⟨fun pc k len E a b => ?_, fun q hq => (nomatch hq), fun z => absurd rfl z⟩
  have := gm_sites_mem (ex := gm_mX6_checkGoal.2.2.2.2.2.2.2.2.2.2.2) (gm_asc_mem a) b
  rw [show gm_sites gm_mX6_checkGoal.2.2.2.2.2.2.2.2.2.2.2 gm_mX6_checkGoal.2.2.2.2.2.1 = [(10, 80, "java/lang/IllegalStateException")] by decide +kernel] at this
  cases List.mem_singleton.mp this
  exact ⟨84, (233, "there is no goal"), List.mem_of_getElem? (i := 15) rfl, rfl, gm_E84, (gm_dX6_checkGoal _ (List.mem_of_getElem? (i := 4) rfl)).1, (gm_dX6_checkGoal _ (List.mem_of_getElem? (i := 5) rfl)).1, Or.inl ⟨(gm_dX6_checkGoal _ (List.mem_of_getElem? (i := 6) rfl)).1, (gm_dX6_checkGoal _ (List.mem_of_getElem? (i := 7) rfl)).1, (gm_dX6_checkGoal _ (List.mem_of_getElem? (i := 8) rfl)).1⟩⟩
theorem gm_dX6_isDenial : ∀ q ∈ gm_cX6_isDenial, decode cX6_isDenial q.1 = .ok q.2 ∧ gm_lenok q.2.1 q.2.2 = true := by decide +kernel
theorem gm_eX6_isDenial : gm_Cok gm_mX6_isDenial := ⟨fun pc i len h => gm_dX6_isDenial (pc, (i, len)) (gm_asc_mem h), gm_putb_of (by decide +kernel)⟩
theorem gm_gX6_isDenial : gm_Tok gm_mX6_isDenial := gm_Tok_of (by decide +kernel) rfl
theorem gm_dX6_isDemand : ∀ q ∈ gm_cX6_isDemand, decode cX6_isDemand q.1 = .ok q.2 ∧ gm_lenok q.2.1 q.2.2 = true := by decide +kernel
theorem gm_eX6_isDemand : gm_Cok gm_mX6_isDemand := ⟨fun pc i len h => gm_dX6_isDemand (pc, (i, len)) (gm_asc_mem h), gm_putb_of (by decide +kernel)⟩
theorem gm_gX6_isDemand : gm_Tok gm_mX6_isDemand := gm_Tok_of (by decide +kernel) rfl
theorem gm_dX6_placesOf : ∀ q ∈ gm_cX6_placesOf, decode cX6_placesOf q.1 = .ok q.2 ∧ gm_lenok q.2.1 q.2.2 = true := by decide +kernel
theorem gm_eX6_placesOf : gm_Cok gm_mX6_placesOf := ⟨fun pc i len h => gm_dX6_placesOf (pc, (i, len)) (gm_asc_mem h), gm_putb_of (by decide +kernel)⟩
theorem gm_gX6_placesOf : gm_Tok gm_mX6_placesOf := gm_Tok_of (by decide +kernel) rfl
theorem gm_dX6_elements : ∀ q ∈ gm_cX6_elements, decode cX6_elements q.1 = .ok q.2 ∧ gm_lenok q.2.1 q.2.2 = true := by decide +kernel
theorem gm_eX6_elements : gm_Cok gm_mX6_elements := ⟨fun pc i len h => gm_dX6_elements (pc, (i, len)) (gm_asc_mem h), gm_putb_of (by decide +kernel)⟩
theorem gm_gX6_elements : gm_Tok gm_mX6_elements := gm_Tok_of (by decide +kernel) rfl
theorem gm_dX6_elementsByTrying : ∀ q ∈ gm_cX6_elementsByTrying, decode cX6_elementsByTrying q.1 = .ok q.2 ∧ gm_lenok q.2.1 q.2.2 = true := by decide +kernel
theorem gm_eX6_elementsByTrying : gm_Cok gm_mX6_elementsByTrying := ⟨fun pc i len h => gm_dX6_elementsByTrying (pc, (i, len)) (gm_asc_mem h), gm_putb_of (by decide +kernel)⟩
theorem gm_gX6_elementsByTrying : gm_Tok gm_mX6_elementsByTrying := gm_Tok_of (by decide +kernel) rfl
theorem gm_dX6_region : ∀ q ∈ gm_cX6_region, decode cX6_region q.1 = .ok q.2 ∧ gm_lenok q.2.1 q.2.2 = true := by decide +kernel
theorem gm_eX6_region : gm_Cok gm_mX6_region := ⟨fun pc i len h => gm_dX6_region (pc, (i, len)) (gm_asc_mem h), gm_putb_of (by decide +kernel)⟩
theorem gm_gX6_region : gm_Tok gm_mX6_region := by
  refine ⟨fun pc k len E a b => ?_, fun q hq => (nomatch hq), fun z => absurd rfl z⟩
  have := gm_sites_mem (ex := gm_mX6_region.2.2.2.2.2.2.2.2.2.2.2) (gm_asc_mem a) b
  rw [show gm_sites gm_mX6_region.2.2.2.2.2.2.2.2.2.2.2 gm_mX6_region.2.2.2.2.2.1 = [(41, 69, "java/util/NoSuchElementException")] by decide +kernel] at this
  cases List.mem_singleton.mp this
  exact ⟨73, (251, "the least counterexample has no such element"), List.mem_of_getElem? (i := 16) rfl, rfl, gm_E73, (gm_dX6_region _ (List.mem_of_getElem? (i := 21) rfl)).1, (gm_dX6_region _ (List.mem_of_getElem? (i := 22) rfl)).1, Or.inl ⟨(gm_dX6_region _ (List.mem_of_getElem? (i := 23) rfl)).1, (gm_dX6_region _ (List.mem_of_getElem? (i := 24) rfl)).1, (gm_dX6_region _ (List.mem_of_getElem? (i := 25) rfl)).1⟩⟩
theorem gm_dX6_models : ∀ q ∈ gm_cX6_models, decode cX6_models q.1 = .ok q.2 ∧ gm_lenok q.2.1 q.2.2 = true := by decide +kernel
theorem gm_eX6_models : gm_Cok gm_mX6_models := ⟨fun pc i len h => gm_dX6_models (pc, (i, len)) (gm_asc_mem h), gm_putb_of (by decide +kernel)⟩
theorem gm_gX6_models : gm_Tok gm_mX6_models := gm_Tok_of (by decide +kernel) rfl
theorem gm_dX6_modelsByTrying : ∀ q ∈ gm_cX6_modelsByTrying, decode cX6_modelsByTrying q.1 = .ok q.2 ∧ gm_lenok q.2.1 q.2.2 = true := by decide +kernel
theorem gm_eX6_modelsByTrying : gm_Cok gm_mX6_modelsByTrying := ⟨fun pc i len h => gm_dX6_modelsByTrying (pc, (i, len)) (gm_asc_mem h), gm_putb_of (by decide +kernel)⟩
theorem gm_gX6_modelsByTrying : gm_Tok gm_mX6_modelsByTrying := gm_Tok_of (by decide +kernel) rfl
theorem gm_dX6_density : ∀ q ∈ gm_cX6_density, decode cX6_density q.1 = .ok q.2 ∧ gm_lenok q.2.1 q.2.2 = true := by decide +kernel
theorem gm_eX6_density : gm_Cok gm_mX6_density := ⟨fun pc i len h => gm_dX6_density (pc, (i, len)) (gm_asc_mem h), gm_putb_of (by decide +kernel)⟩
theorem gm_gX6_density : gm_Tok gm_mX6_density := gm_Tok_of (by decide +kernel) rfl
theorem gm_dX6_leastOrThrow : ∀ q ∈ gm_cX6_leastOrThrow, decode cX6_leastOrThrow q.1 = .ok q.2 ∧ gm_lenok q.2.1 q.2.2 = true := by decide +kernel
theorem gm_eX6_leastOrThrow : gm_Cok gm_mX6_leastOrThrow := ⟨fun pc i len h => gm_dX6_leastOrThrow (pc, (i, len)) (gm_asc_mem h), gm_putb_of (by decide +kernel)⟩
theorem gm_gX6_leastOrThrow : gm_Tok gm_mX6_leastOrThrow := by
  refine ⟨fun pc k len E a b => ?_, fun q hq => (nomatch hq), fun z => absurd rfl z⟩
  have := gm_sites_mem (ex := gm_mX6_leastOrThrow.2.2.2.2.2.2.2.2.2.2.2) (gm_asc_mem a) b
  rw [show gm_sites gm_mX6_leastOrThrow.2.2.2.2.2.2.2.2.2.2.2 gm_mX6_leastOrThrow.2.2.2.2.2.1 = [(5, 69, "java/util/NoSuchElementException")] by decide +kernel] at this
  cases List.mem_singleton.mp this
  exact ⟨73, (265, "the goal follows"), List.mem_of_getElem? (i := 17) rfl, rfl, gm_E73, (gm_dX6_leastOrThrow _ (List.mem_of_getElem? (i := 3) rfl)).1, (gm_dX6_leastOrThrow _ (List.mem_of_getElem? (i := 4) rfl)).1, Or.inr ⟨(gm_dX6_leastOrThrow _ (List.mem_of_getElem? (i := 5) rfl)).1, (gm_dX6_leastOrThrow _ (List.mem_of_getElem? (i := 6) rfl)).1, (gm_dX6_leastOrThrow _ (List.mem_of_getElem? (i := 7) rfl)).1⟩⟩
theorem gm_dX6_checkElements : ∀ q ∈ gm_cX6_checkElements, decode cX6_checkElements q.1 = .ok q.2 ∧ gm_lenok q.2.1 q.2.2 = true := by decide +kernel
theorem gm_eX6_checkElements : gm_Cok gm_mX6_checkElements := ⟨fun pc i len h => gm_dX6_checkElements (pc, (i, len)) (gm_asc_mem h), gm_putb_of (by decide +kernel)⟩
theorem gm_gX6_checkElements : gm_Tok gm_mX6_checkElements := by
  refine ⟨fun pc k len E a b => ?_, fun q hq => (nomatch hq), fun z => absurd rfl z⟩
  have := gm_sites_mem (ex := gm_mX6_checkElements.2.2.2.2.2.2.2.2.2.2.2) (gm_asc_mem a) b
  rw [show gm_sites gm_mX6_checkElements.2.2.2.2.2.2.2.2.2.2.2 gm_mX6_checkElements.2.2.2.2.2.1 = [(9, 94, "java/lang/IllegalArgumentException")] by decide +kernel] at this
  cases List.mem_singleton.mp this
  exact ⟨98, (267, "no such number of elements"), List.mem_of_getElem? (i := 18) rfl, rfl, gm_E98, (gm_dX6_checkElements _ (List.mem_of_getElem? (i := 5) rfl)).1, (gm_dX6_checkElements _ (List.mem_of_getElem? (i := 6) rfl)).1, Or.inr ⟨(gm_dX6_checkElements _ (List.mem_of_getElem? (i := 7) rfl)).1, (gm_dX6_checkElements _ (List.mem_of_getElem? (i := 8) rfl)).1, (gm_dX6_checkElements _ (List.mem_of_getElem? (i := 9) rfl)).1⟩⟩
theorem gm_dX7_init : ∀ q ∈ gm_cX7_init, decode cX7_init q.1 = .ok q.2 ∧ gm_lenok q.2.1 q.2.2 = true := by decide +kernel
theorem gm_eX7_init : gm_Cok gm_mX7_init := ⟨fun pc i len h => gm_dX7_init (pc, (i, len)) (gm_asc_mem h), gm_putb_of (by decide +kernel)⟩
theorem gm_gX7_init : gm_Tok gm_mX7_init := gm_Tok_of (by decide +kernel) rfl
theorem gm_dX7_thrown : ∀ q ∈ gm_cX7_thrown, decode cX7_thrown q.1 = .ok q.2 ∧ gm_lenok q.2.1 q.2.2 = true := by decide +kernel
theorem gm_eX7_thrown : gm_Cok gm_mX7_thrown := ⟨fun pc i len h => gm_dX7_thrown (pc, (i, len)) (gm_asc_mem h), gm_putb_of (by decide +kernel)⟩
theorem gm_gX7_thrown : gm_Tok gm_mX7_thrown := gm_Tok_of (by decide +kernel) rfl
theorem gm_dX7_fail : ∀ q ∈ gm_cX7_fail, decode cX7_fail q.1 = .ok q.2 ∧ gm_lenok q.2.1 q.2.2 = true := by decide +kernel
theorem gm_eX7_fail : gm_Cok gm_mX7_fail := ⟨fun pc i len h => gm_dX7_fail (pc, (i, len)) (gm_asc_mem h), gm_putb_of (by decide +kernel)⟩
theorem gm_gX7_fail : gm_Tok gm_mX7_fail := gm_Tok_of (by decide +kernel) rfl
theorem gm_dX7_isIn : ∀ q ∈ gm_cX7_isIn, decode cX7_isIn q.1 = .ok q.2 ∧ gm_lenok q.2.1 q.2.2 = true := by decide +kernel
theorem gm_eX7_isIn : gm_Cok gm_mX7_isIn := ⟨fun pc i len h => gm_dX7_isIn (pc, (i, len)) (gm_asc_mem h), gm_putb_of (by decide +kernel)⟩
theorem gm_gX7_isIn : gm_Tok gm_mX7_isIn := gm_Tok_of (by decide +kernel) rfl
theorem gm_dX7_noTerm : ∀ q ∈ gm_cX7_noTerm, decode cX7_noTerm q.1 = .ok q.2 ∧ gm_lenok q.2.1 q.2.2 = true := by decide +kernel
theorem gm_eX7_noTerm : gm_Cok gm_mX7_noTerm := ⟨fun pc i len h => gm_dX7_noTerm (pc, (i, len)) (gm_asc_mem h), gm_putb_of (by decide +kernel)⟩
theorem gm_gX7_noTerm : gm_Tok gm_mX7_noTerm := gm_Tok_of (by decide +kernel) rfl
theorem gm_dX7_isPair : ∀ q ∈ gm_cX7_isPair, decode cX7_isPair q.1 = .ok q.2 ∧ gm_lenok q.2.1 q.2.2 = true := by decide +kernel
theorem gm_eX7_isPair : gm_Cok gm_mX7_isPair := ⟨fun pc i len h => gm_dX7_isPair (pc, (i, len)) (gm_asc_mem h), gm_putb_of (by decide +kernel)⟩
theorem gm_gX7_isPair : gm_Tok gm_mX7_isPair := gm_Tok_of (by decide +kernel) rfl
theorem gm_dX7_letterCover : ∀ q ∈ gm_cX7_letterCover, decode cX7_letterCover q.1 = .ok q.2 ∧ gm_lenok q.2.1 q.2.2 = true := by decide +kernel
theorem gm_eX7_letterCover : gm_Cok gm_mX7_letterCover := ⟨fun pc i len h => gm_dX7_letterCover (pc, (i, len)) (gm_asc_mem h), gm_putb_of (by decide +kernel)⟩
theorem gm_gX7_letterCover : gm_Tok gm_mX7_letterCover := gm_Tok_of (by decide +kernel) rfl
theorem gm_dX7_covered : ∀ q ∈ gm_cX7_covered, decode cX7_covered q.1 = .ok q.2 ∧ gm_lenok q.2.1 q.2.2 = true := by decide +kernel
theorem gm_eX7_covered : gm_Cok gm_mX7_covered := ⟨fun pc i len h => gm_dX7_covered (pc, (i, len)) (gm_asc_mem h), gm_putb_of (by decide +kernel)⟩
theorem gm_gX7_covered : gm_Tok gm_mX7_covered := gm_Tok_of (by decide +kernel) rfl
theorem gm_dX7_know : ∀ q ∈ gm_cX7_know, decode cX7_know q.1 = .ok q.2 ∧ gm_lenok q.2.1 q.2.2 = true := by decide +kernel
theorem gm_eX7_know : gm_Cok gm_mX7_know := ⟨fun pc i len h => gm_dX7_know (pc, (i, len)) (gm_asc_mem h), gm_putb_of (by decide +kernel)⟩
theorem gm_gX7_know : gm_Tok gm_mX7_know := gm_Tok_of (by decide +kernel) rfl
theorem gm_dX7_makes : ∀ q ∈ gm_cX7_makes, decode cX7_makes q.1 = .ok q.2 ∧ gm_lenok q.2.1 q.2.2 = true := by decide +kernel
theorem gm_eX7_makes : gm_Cok gm_mX7_makes := ⟨fun pc i len h => gm_dX7_makes (pc, (i, len)) (gm_asc_mem h), gm_putb_of (by decide +kernel)⟩
theorem gm_gX7_makes : gm_Tok gm_mX7_makes := gm_Tok_of (by decide +kernel) rfl
theorem gm_dX7_letter : ∀ q ∈ gm_cX7_letter, decode cX7_letter q.1 = .ok q.2 ∧ gm_lenok q.2.1 q.2.2 = true := by decide +kernel
theorem gm_eX7_letter : gm_Cok gm_mX7_letter := ⟨fun pc i len h => gm_dX7_letter (pc, (i, len)) (gm_asc_mem h), gm_putb_of (by decide +kernel)⟩
theorem gm_gX7_letter : gm_Tok gm_mX7_letter := gm_Tok_of (by decide +kernel) rfl
theorem gm_dX7_empty : ∀ q ∈ gm_cX7_empty, decode cX7_empty q.1 = .ok q.2 ∧ gm_lenok q.2.1 q.2.2 = true := by decide +kernel
theorem gm_eX7_empty : gm_Cok gm_mX7_empty := ⟨fun pc i len h => gm_dX7_empty (pc, (i, len)) (gm_asc_mem h), gm_putb_of (by decide +kernel)⟩
theorem gm_gX7_empty : gm_Tok gm_mX7_empty := gm_Tok_of (by decide +kernel) rfl
theorem gm_dX7_universe : ∀ q ∈ gm_cX7_universe, decode cX7_universe q.1 = .ok q.2 ∧ gm_lenok q.2.1 q.2.2 = true := by decide +kernel
theorem gm_eX7_universe : gm_Cok gm_mX7_universe := ⟨fun pc i len h => gm_dX7_universe (pc, (i, len)) (gm_asc_mem h), gm_putb_of (by decide +kernel)⟩
theorem gm_gX7_universe : gm_Tok gm_mX7_universe := gm_Tok_of (by decide +kernel) rfl
theorem gm_dX7_complement : ∀ q ∈ gm_cX7_complement, decode cX7_complement q.1 = .ok q.2 ∧ gm_lenok q.2.1 q.2.2 = true := by decide +kernel
theorem gm_eX7_complement : gm_Cok gm_mX7_complement := ⟨fun pc i len h => gm_dX7_complement (pc, (i, len)) (gm_asc_mem h), gm_putb_of (by decide +kernel)⟩
theorem gm_gX7_complement : gm_Tok gm_mX7_complement := gm_Tok_of (by decide +kernel) rfl
theorem gm_dX7_pair : ∀ q ∈ gm_cX7_pair, decode cX7_pair q.1 = .ok q.2 ∧ gm_lenok q.2.1 q.2.2 = true := by decide +kernel
theorem gm_eX7_pair : gm_Cok gm_mX7_pair := ⟨fun pc i len h => gm_dX7_pair (pc, (i, len)) (gm_asc_mem h), gm_putb_of (by decide +kernel)⟩
theorem gm_gX7_pair : gm_Tok gm_mX7_pair := gm_Tok_of (by decide +kernel) rfl
theorem gm_dX7_union : ∀ q ∈ gm_cX7_union, decode cX7_union q.1 = .ok q.2 ∧ gm_lenok q.2.1 q.2.2 = true := by decide +kernel
theorem gm_eX7_union : gm_Cok gm_mX7_union := ⟨fun pc i len h => gm_dX7_union (pc, (i, len)) (gm_asc_mem h), gm_putb_of (by decide +kernel)⟩
theorem gm_gX7_union : gm_Tok gm_mX7_union := gm_Tok_of (by decide +kernel) rfl
theorem gm_dX7_intersection : ∀ q ∈ gm_cX7_intersection, decode cX7_intersection q.1 = .ok q.2 ∧ gm_lenok q.2.1 q.2.2 = true := by decide +kernel
theorem gm_eX7_intersection : gm_Cok gm_mX7_intersection := ⟨fun pc i len h => gm_dX7_intersection (pc, (i, len)) (gm_asc_mem h), gm_putb_of (by decide +kernel)⟩
theorem gm_gX7_intersection : gm_Tok gm_mX7_intersection := gm_Tok_of (by decide +kernel) rfl
theorem gm_dX7_difference : ∀ q ∈ gm_cX7_difference, decode cX7_difference q.1 = .ok q.2 ∧ gm_lenok q.2.1 q.2.2 = true := by decide +kernel
theorem gm_eX7_difference : gm_Cok gm_mX7_difference := ⟨fun pc i len h => gm_dX7_difference (pc, (i, len)) (gm_asc_mem h), gm_putb_of (by decide +kernel)⟩
theorem gm_gX7_difference : gm_Tok gm_mX7_difference := gm_Tok_of (by decide +kernel) rfl
theorem gm_dX7_symmetric : ∀ q ∈ gm_cX7_symmetric, decode cX7_symmetric q.1 = .ok q.2 ∧ gm_lenok q.2.1 q.2.2 = true := by decide +kernel
theorem gm_eX7_symmetric : gm_Cok gm_mX7_symmetric := ⟨fun pc i len h => gm_dX7_symmetric (pc, (i, len)) (gm_asc_mem h), gm_putb_of (by decide +kernel)⟩
theorem gm_gX7_symmetric : gm_Tok gm_mX7_symmetric := gm_Tok_of (by decide +kernel) rfl
theorem gm_dX7_terms : ∀ q ∈ gm_cX7_terms, decode cX7_terms q.1 = .ok q.2 ∧ gm_lenok q.2.1 q.2.2 = true := by decide +kernel
theorem gm_eX7_terms : gm_Cok gm_mX7_terms := ⟨fun pc i len h => gm_dX7_terms (pc, (i, len)) (gm_asc_mem h), gm_putb_of (by decide +kernel)⟩
theorem gm_gX7_terms : gm_Tok gm_mX7_terms := gm_Tok_of (by decide +kernel) rfl
theorem gm_dX7_size : ∀ q ∈ gm_cX7_size, decode cX7_size q.1 = .ok q.2 ∧ gm_lenok q.2.1 q.2.2 = true := by decide +kernel
theorem gm_eX7_size : gm_Cok gm_mX7_size := ⟨fun pc i len h => gm_dX7_size (pc, (i, len)) (gm_asc_mem h), gm_putb_of (by decide +kernel)⟩
theorem gm_gX7_size : gm_Tok gm_mX7_size := gm_Tok_of (by decide +kernel) rfl
theorem gm_dX7_write : ∀ q ∈ gm_cX7_write, decode cX7_write q.1 = .ok q.2 ∧ gm_lenok q.2.1 q.2.2 = true := by decide +kernel
theorem gm_eX7_write : gm_Cok gm_mX7_write := ⟨fun pc i len h => gm_dX7_write (pc, (i, len)) (gm_asc_mem h), gm_putb_of (by decide +kernel)⟩
theorem gm_gX7_write : gm_Tok gm_mX7_write := gm_Tok_of (by decide +kernel) rfl
theorem gm_dX7_spell : ∀ q ∈ gm_cX7_spell, decode cX7_spell q.1 = .ok q.2 ∧ gm_lenok q.2.1 q.2.2 = true := by decide +kernel
theorem gm_eX7_spell : gm_Cok gm_mX7_spell := ⟨fun pc i len h => gm_dX7_spell (pc, (i, len)) (gm_asc_mem h), gm_putb_of (by decide +kernel)⟩
theorem gm_gX7_spell : gm_Tok gm_mX7_spell := gm_Tok_of (by decide +kernel) rfl
theorem gm_dX7_symbol : ∀ q ∈ gm_cX7_symbol, decode cX7_symbol q.1 = .ok q.2 ∧ gm_lenok q.2.1 q.2.2 = true := by decide +kernel
theorem gm_eX7_symbol : gm_Cok gm_mX7_symbol := ⟨fun pc i len h => gm_dX7_symbol (pc, (i, len)) (gm_asc_mem h), gm_putb_of (by decide +kernel)⟩
theorem gm_gX7_symbol : gm_Tok gm_mX7_symbol := gm_Tok_of (by decide +kernel) rfl
theorem gm_dX7_regions : ∀ q ∈ gm_cX7_regions, decode cX7_regions q.1 = .ok q.2 ∧ gm_lenok q.2.1 q.2.2 = true := by decide +kernel
theorem gm_eX7_regions : gm_Cok gm_mX7_regions := ⟨fun pc i len h => gm_dX7_regions (pc, (i, len)) (gm_asc_mem h), gm_putb_of (by decide +kernel)⟩
theorem gm_gX7_regions : gm_Tok gm_mX7_regions := gm_Tok_of (by decide +kernel) rfl
theorem gm_dX7_covers : ∀ q ∈ gm_cX7_covers, decode cX7_covers q.1 = .ok q.2 ∧ gm_lenok q.2.1 q.2.2 = true := by decide +kernel
theorem gm_eX7_covers : gm_Cok gm_mX7_covers := ⟨fun pc i len h => gm_dX7_covers (pc, (i, len)) (gm_asc_mem h), gm_putb_of (by decide +kernel)⟩
theorem gm_gX7_covers : gm_Tok gm_mX7_covers := gm_Tok_of (by decide +kernel) rfl
theorem gm_dX7_coversByTerm : ∀ q ∈ gm_cX7_coversByTerm, decode cX7_coversByTerm q.1 = .ok q.2 ∧ gm_lenok q.2.1 q.2.2 = true := by decide +kernel
theorem gm_eX7_coversByTerm : gm_Cok gm_mX7_coversByTerm := ⟨fun pc i len h => gm_dX7_coversByTerm (pc, (i, len)) (gm_asc_mem h), gm_putb_of (by decide +kernel)⟩
theorem gm_gX7_coversByTerm : gm_Tok gm_mX7_coversByTerm := gm_Tok_of (by decide +kernel) rfl
theorem gm_dX7_isEqual : ∀ q ∈ gm_cX7_isEqual, decode cX7_isEqual q.1 = .ok q.2 ∧ gm_lenok q.2.1 q.2.2 = true := by decide +kernel
theorem gm_eX7_isEqual : gm_Cok gm_mX7_isEqual := ⟨fun pc i len h => gm_dX7_isEqual (pc, (i, len)) (gm_asc_mem h), gm_putb_of (by decide +kernel)⟩
theorem gm_gX7_isEqual : gm_Tok gm_mX7_isEqual := gm_Tok_of (by decide +kernel) rfl
theorem gm_dX7_behind : ∀ q ∈ gm_cX7_behind, decode cX7_behind q.1 = .ok q.2 ∧ gm_lenok q.2.1 q.2.2 = true := by decide +kernel
theorem gm_eX7_behind : gm_Cok gm_mX7_behind := ⟨fun pc i len h => gm_dX7_behind (pc, (i, len)) (gm_asc_mem h), gm_putb_of (by decide +kernel)⟩
theorem gm_gX7_behind : gm_Tok gm_mX7_behind := gm_Tok_of (by decide +kernel) rfl
theorem gm_dX7_isSame : ∀ q ∈ gm_cX7_isSame, decode cX7_isSame q.1 = .ok q.2 ∧ gm_lenok q.2.1 q.2.2 = true := by decide +kernel
theorem gm_eX7_isSame : gm_Cok gm_mX7_isSame := ⟨fun pc i len h => gm_dX7_isSame (pc, (i, len)) (gm_asc_mem h), gm_putb_of (by decide +kernel)⟩
theorem gm_gX7_isSame : gm_Tok gm_mX7_isSame := gm_Tok_of (by decide +kernel) rfl
theorem gm_dX7_ruleAt : ∀ q ∈ gm_cX7_ruleAt, decode cX7_ruleAt q.1 = .ok q.2 ∧ gm_lenok q.2.1 q.2.2 = true := by decide +kernel
theorem gm_eX7_ruleAt : gm_Cok gm_mX7_ruleAt := ⟨fun pc i len h => gm_dX7_ruleAt (pc, (i, len)) (gm_asc_mem h), gm_putb_of (by decide +kernel)⟩
theorem gm_gX7_ruleAt : gm_Tok gm_mX7_ruleAt := gm_Tok_of (by decide +kernel) rfl
theorem gm_dX7_place : ∀ q ∈ gm_cX7_place, decode cX7_place q.1 = .ok q.2 ∧ gm_lenok q.2.1 q.2.2 = true := by decide +kernel
theorem gm_eX7_place : gm_Cok gm_mX7_place := ⟨fun pc i len h => gm_dX7_place (pc, (i, len)) (gm_asc_mem h), gm_putb_of (by decide +kernel)⟩
theorem gm_gX7_place : gm_Tok gm_mX7_place := gm_Tok_of (by decide +kernel) rfl
theorem gm_dX7_puts : ∀ q ∈ gm_cX7_puts, decode cX7_puts q.1 = .ok q.2 ∧ gm_lenok q.2.1 q.2.2 = true := by decide +kernel
theorem gm_eX7_puts : gm_Cok gm_mX7_puts := ⟨fun pc i len h => gm_dX7_puts (pc, (i, len)) (gm_asc_mem h), gm_putb_of (by decide +kernel)⟩
theorem gm_gX7_puts : gm_Tok gm_mX7_puts := gm_Tok_of (by decide +kernel) rfl
theorem gm_dX7_copies : ∀ q ∈ gm_cX7_copies, decode cX7_copies q.1 = .ok q.2 ∧ gm_lenok q.2.1 q.2.2 = true := by decide +kernel
theorem gm_eX7_copies : gm_Cok gm_mX7_copies := ⟨fun pc i len h => gm_dX7_copies (pc, (i, len)) (gm_asc_mem h), gm_putb_of (by decide +kernel)⟩
theorem gm_gX7_copies : gm_Tok gm_mX7_copies := gm_Tok_of (by decide +kernel) rfl
theorem gm_dX7_rewrite : ∀ q ∈ gm_cX7_rewrite, decode cX7_rewrite q.1 = .ok q.2 ∧ gm_lenok q.2.1 q.2.2 = true := by decide +kernel
theorem gm_eX7_rewrite : gm_Cok gm_mX7_rewrite := ⟨fun pc i len h => gm_dX7_rewrite (pc, (i, len)) (gm_asc_mem h), gm_putb_of (by decide +kernel)⟩
theorem gm_gX7_rewrite : gm_Tok gm_mX7_rewrite := gm_Tok_of (by decide +kernel) rfl
theorem gm_dX7_parse : ∀ q ∈ gm_cX7_parse, decode cX7_parse q.1 = .ok q.2 ∧ gm_lenok q.2.1 q.2.2 = true := by decide +kernel
theorem gm_eX7_parse : gm_Cok gm_mX7_parse := ⟨fun pc i len h => gm_dX7_parse (pc, (i, len)) (gm_asc_mem h), gm_putb_of (by decide +kernel)⟩
theorem gm_gX7_parse : gm_Tok gm_mX7_parse := gm_Tok_of (by decide +kernel) rfl
theorem gm_dX7_learns : ∀ q ∈ gm_cX7_learns, decode cX7_learns q.1 = .ok q.2 ∧ gm_lenok q.2.1 q.2.2 = true := by decide +kernel
theorem gm_eX7_learns : gm_Cok gm_mX7_learns := ⟨fun pc i len h => gm_dX7_learns (pc, (i, len)) (gm_asc_mem h), gm_putb_of (by decide +kernel)⟩
theorem gm_gX7_learns : gm_Tok gm_mX7_learns := gm_Tok_of (by decide +kernel) rfl
theorem gm_dX7_rule : ∀ q ∈ gm_cX7_rule, decode cX7_rule q.1 = .ok q.2 ∧ gm_lenok q.2.1 q.2.2 = true := by decide +kernel
theorem gm_eX7_rule : gm_Cok gm_mX7_rule := ⟨fun pc i len h => gm_dX7_rule (pc, (i, len)) (gm_asc_mem h), gm_putb_of (by decide +kernel)⟩
theorem gm_gX7_rule : gm_Tok gm_mX7_rule := gm_Tok_of (by decide +kernel) rfl
theorem gm_dX7_step : ∀ q ∈ gm_cX7_step, decode cX7_step q.1 = .ok q.2 ∧ gm_lenok q.2.1 q.2.2 = true := by decide +kernel
theorem gm_eX7_step : gm_Cok gm_mX7_step := ⟨fun pc i len h => gm_dX7_step (pc, (i, len)) (gm_asc_mem h), gm_putb_of (by decide +kernel)⟩
theorem gm_gX7_step : gm_Tok gm_mX7_step := gm_Tok_of (by decide +kernel) rfl
theorem gm_dX7_steps : ∀ q ∈ gm_cX7_steps, decode cX7_steps q.1 = .ok q.2 ∧ gm_lenok q.2.1 q.2.2 = true := by decide +kernel
theorem gm_eX7_steps : gm_Cok gm_mX7_steps := ⟨fun pc i len h => gm_dX7_steps (pc, (i, len)) (gm_asc_mem h), gm_putb_of (by decide +kernel)⟩
theorem gm_gX7_steps : gm_Tok gm_mX7_steps := gm_Tok_of (by decide +kernel) rfl
theorem gm_dX7_normalForm : ∀ q ∈ gm_cX7_normalForm, decode cX7_normalForm q.1 = .ok q.2 ∧ gm_lenok q.2.1 q.2.2 = true := by decide +kernel
theorem gm_eX7_normalForm : gm_Cok gm_mX7_normalForm := ⟨fun pc i len h => gm_dX7_normalForm (pc, (i, len)) (gm_asc_mem h), gm_putb_of (by decide +kernel)⟩
theorem gm_gX7_normalForm : gm_Tok gm_mX7_normalForm := gm_Tok_of (by decide +kernel) rfl
theorem gm_dX7_cube : ∀ q ∈ gm_cX7_cube, decode cX7_cube q.1 = .ok q.2 ∧ gm_lenok q.2.1 q.2.2 = true := by decide +kernel
theorem gm_eX7_cube : gm_Cok gm_mX7_cube := ⟨fun pc i len h => gm_dX7_cube (pc, (i, len)) (gm_asc_mem h), gm_putb_of (by decide +kernel)⟩
theorem gm_gX7_cube : gm_Tok gm_mX7_cube := gm_Tok_of (by decide +kernel) rfl
theorem gm_dX7_isImplicant : ∀ q ∈ gm_cX7_isImplicant, decode cX7_isImplicant q.1 = .ok q.2 ∧ gm_lenok q.2.1 q.2.2 = true := by decide +kernel
theorem gm_eX7_isImplicant : gm_Cok gm_mX7_isImplicant := ⟨fun pc i len h => gm_dX7_isImplicant (pc, (i, len)) (gm_asc_mem h), gm_putb_of (by decide +kernel)⟩
theorem gm_gX7_isImplicant : gm_Tok gm_mX7_isImplicant := gm_Tok_of (by decide +kernel) rfl
theorem gm_dX7_isPrime : ∀ q ∈ gm_cX7_isPrime, decode cX7_isPrime q.1 = .ok q.2 ∧ gm_lenok q.2.1 q.2.2 = true := by decide +kernel
theorem gm_eX7_isPrime : gm_Cok gm_mX7_isPrime := ⟨fun pc i len h => gm_dX7_isPrime (pc, (i, len)) (gm_asc_mem h), gm_putb_of (by decide +kernel)⟩
theorem gm_gX7_isPrime : gm_Tok gm_mX7_isPrime := gm_Tok_of (by decide +kernel) rfl
theorem gm_dX7_primes : ∀ q ∈ gm_cX7_primes, decode cX7_primes q.1 = .ok q.2 ∧ gm_lenok q.2.1 q.2.2 = true := by decide +kernel
theorem gm_eX7_primes : gm_Cok gm_mX7_primes := ⟨fun pc i len h => gm_dX7_primes (pc, (i, len)) (gm_asc_mem h), gm_putb_of (by decide +kernel)⟩
theorem gm_gX7_primes : gm_Tok gm_mX7_primes := gm_Tok_of (by decide +kernel) rfl
theorem gm_dX7_primesByTrying : ∀ q ∈ gm_cX7_primesByTrying, decode cX7_primesByTrying q.1 = .ok q.2 ∧ gm_lenok q.2.1 q.2.2 = true := by decide +kernel
theorem gm_eX7_primesByTrying : gm_Cok gm_mX7_primesByTrying := ⟨fun pc i len h => gm_dX7_primesByTrying (pc, (i, len)) (gm_asc_mem h), gm_putb_of (by decide +kernel)⟩
theorem gm_gX7_primesByTrying : gm_Tok gm_mX7_primesByTrying := gm_Tok_of (by decide +kernel) rfl
theorem gm_dX7_prime : ∀ q ∈ gm_cX7_prime, decode cX7_prime q.1 = .ok q.2 ∧ gm_lenok q.2.1 q.2.2 = true := by decide +kernel
theorem gm_eX7_prime : gm_Cok gm_mX7_prime := ⟨fun pc i len h => gm_dX7_prime (pc, (i, len)) (gm_asc_mem h), gm_putb_of (by decide +kernel)⟩
theorem gm_gX7_prime : gm_Tok gm_mX7_prime := gm_Tok_of (by decide +kernel) rfl
theorem gm_dX7_isKind : ∀ q ∈ gm_cX7_isKind, decode cX7_isKind q.1 = .ok q.2 ∧ gm_lenok q.2.1 q.2.2 = true := by decide +kernel
theorem gm_eX7_isKind : gm_Cok gm_mX7_isKind := ⟨fun pc i len h => gm_dX7_isKind (pc, (i, len)) (gm_asc_mem h), gm_putb_of (by decide +kernel)⟩
theorem gm_gX7_isKind : gm_Tok gm_mX7_isKind := gm_Tok_of (by decide +kernel) rfl
theorem gm_dX7_isDemand : ∀ q ∈ gm_cX7_isDemand, decode cX7_isDemand q.1 = .ok q.2 ∧ gm_lenok q.2.1 q.2.2 = true := by decide +kernel
theorem gm_eX7_isDemand : gm_Cok gm_mX7_isDemand := ⟨fun pc i len h => gm_dX7_isDemand (pc, (i, len)) (gm_asc_mem h), gm_putb_of (by decide +kernel)⟩
theorem gm_gX7_isDemand : gm_Tok gm_mX7_isDemand := gm_Tok_of (by decide +kernel) rfl
theorem gm_dX7_regionsOf : ∀ q ∈ gm_cX7_regionsOf, decode cX7_regionsOf q.1 = .ok q.2 ∧ gm_lenok q.2.1 q.2.2 = true := by decide +kernel
theorem gm_eX7_regionsOf : gm_Cok gm_mX7_regionsOf := ⟨fun pc i len h => gm_dX7_regionsOf (pc, (i, len)) (gm_asc_mem h), gm_putb_of (by decide +kernel)⟩
theorem gm_gX7_regionsOf : gm_Tok gm_mX7_regionsOf := gm_Tok_of (by decide +kernel) rfl
theorem gm_dX7_assumed : ∀ q ∈ gm_cX7_assumed, decode cX7_assumed q.1 = .ok q.2 ∧ gm_lenok q.2.1 q.2.2 = true := by decide +kernel
theorem gm_eX7_assumed : gm_Cok gm_mX7_assumed := ⟨fun pc i len h => gm_dX7_assumed (pc, (i, len)) (gm_asc_mem h), gm_putb_of (by decide +kernel)⟩
theorem gm_gX7_assumed : gm_Tok gm_mX7_assumed := gm_Tok_of (by decide +kernel) rfl
theorem gm_dX7_goal : ∀ q ∈ gm_cX7_goal, decode cX7_goal q.1 = .ok q.2 ∧ gm_lenok q.2.1 q.2.2 = true := by decide +kernel
theorem gm_eX7_goal : gm_Cok gm_mX7_goal := ⟨fun pc i len h => gm_dX7_goal (pc, (i, len)) (gm_asc_mem h), gm_putb_of (by decide +kernel)⟩
theorem gm_gX7_goal : gm_Tok gm_mX7_goal := gm_Tok_of (by decide +kernel) rfl
theorem gm_dX7_areTerms : ∀ q ∈ gm_cX7_areTerms, decode cX7_areTerms q.1 = .ok q.2 ∧ gm_lenok q.2.1 q.2.2 = true := by decide +kernel
theorem gm_eX7_areTerms : gm_Cok gm_mX7_areTerms := ⟨fun pc i len h => gm_dX7_areTerms (pc, (i, len)) (gm_asc_mem h), gm_putb_of (by decide +kernel)⟩
theorem gm_gX7_areTerms : gm_Tok gm_mX7_areTerms := gm_Tok_of (by decide +kernel) rfl
theorem gm_dX7_assume : ∀ q ∈ gm_cX7_assume, decode cX7_assume q.1 = .ok q.2 ∧ gm_lenok q.2.1 q.2.2 = true := by decide +kernel
theorem gm_eX7_assume : gm_Cok gm_mX7_assume := ⟨fun pc i len h => gm_dX7_assume (pc, (i, len)) (gm_asc_mem h), gm_putb_of (by decide +kernel)⟩
theorem gm_gX7_assume : gm_Tok gm_mX7_assume := gm_Tok_of (by decide +kernel) rfl
theorem gm_dX7_drop : ∀ q ∈ gm_cX7_drop, decode cX7_drop q.1 = .ok q.2 ∧ gm_lenok q.2.1 q.2.2 = true := by decide +kernel
theorem gm_eX7_drop : gm_Cok gm_mX7_drop := ⟨fun pc i len h => gm_dX7_drop (pc, (i, len)) (gm_asc_mem h), gm_putb_of (by decide +kernel)⟩
theorem gm_gX7_drop : gm_Tok gm_mX7_drop := gm_Tok_of (by decide +kernel) rfl
theorem gm_dX7_assumptions : ∀ q ∈ gm_cX7_assumptions, decode cX7_assumptions q.1 = .ok q.2 ∧ gm_lenok q.2.1 q.2.2 = true := by decide +kernel
theorem gm_eX7_assumptions : gm_Cok gm_mX7_assumptions := ⟨fun pc i len h => gm_dX7_assumptions (pc, (i, len)) (gm_asc_mem h), gm_putb_of (by decide +kernel)⟩
theorem gm_gX7_assumptions : gm_Tok gm_mX7_assumptions := gm_Tok_of (by decide +kernel) rfl
theorem gm_dX7_setGoal : ∀ q ∈ gm_cX7_setGoal, decode cX7_setGoal q.1 = .ok q.2 ∧ gm_lenok q.2.1 q.2.2 = true := by decide +kernel
theorem gm_eX7_setGoal : gm_Cok gm_mX7_setGoal := ⟨fun pc i len h => gm_dX7_setGoal (pc, (i, len)) (gm_asc_mem h), gm_putb_of (by decide +kernel)⟩
theorem gm_gX7_setGoal : gm_Tok gm_mX7_setGoal := gm_Tok_of (by decide +kernel) rfl
theorem gm_dX7_allowed : ∀ q ∈ gm_cX7_allowed, decode cX7_allowed q.1 = .ok q.2 ∧ gm_lenok q.2.1 q.2.2 = true := by decide +kernel
theorem gm_eX7_allowed : gm_Cok gm_mX7_allowed := ⟨fun pc i len h => gm_dX7_allowed (pc, (i, len)) (gm_asc_mem h), gm_putb_of (by decide +kernel)⟩
theorem gm_gX7_allowed : gm_Tok gm_mX7_allowed := gm_Tok_of (by decide +kernel) rfl
theorem gm_dX7_hasModel : ∀ q ∈ gm_cX7_hasModel, decode cX7_hasModel q.1 = .ok q.2 ∧ gm_lenok q.2.1 q.2.2 = true := by decide +kernel
theorem gm_eX7_hasModel : gm_Cok gm_mX7_hasModel := ⟨fun pc i len h => gm_dX7_hasModel (pc, (i, len)) (gm_asc_mem h), gm_putb_of (by decide +kernel)⟩
theorem gm_gX7_hasModel : gm_Tok gm_mX7_hasModel := gm_Tok_of (by decide +kernel) rfl
theorem gm_dX7_isConsistent : ∀ q ∈ gm_cX7_isConsistent, decode cX7_isConsistent q.1 = .ok q.2 ∧ gm_lenok q.2.1 q.2.2 = true := by decide +kernel
theorem gm_eX7_isConsistent : gm_Cok gm_mX7_isConsistent := ⟨fun pc i len h => gm_dX7_isConsistent (pc, (i, len)) (gm_asc_mem h), gm_putb_of (by decide +kernel)⟩
theorem gm_gX7_isConsistent : gm_Tok gm_mX7_isConsistent := gm_Tok_of (by decide +kernel) rfl
theorem gm_dX7_deniedBy : ∀ q ∈ gm_cX7_deniedBy, decode cX7_deniedBy q.1 = .ok q.2 ∧ gm_lenok q.2.1 q.2.2 = true := by decide +kernel
theorem gm_eX7_deniedBy : gm_Cok gm_mX7_deniedBy := ⟨fun pc i len h => gm_dX7_deniedBy (pc, (i, len)) (gm_asc_mem h), gm_putb_of (by decide +kernel)⟩
theorem gm_gX7_deniedBy : gm_Tok gm_mX7_deniedBy := gm_Tok_of (by decide +kernel) rfl
theorem gm_dX7_counter : ∀ q ∈ gm_cX7_counter, decode cX7_counter q.1 = .ok q.2 ∧ gm_lenok q.2.1 q.2.2 = true := by decide +kernel
theorem gm_eX7_counter : gm_Cok gm_mX7_counter := ⟨fun pc i len h => gm_dX7_counter (pc, (i, len)) (gm_asc_mem h), gm_putb_of (by decide +kernel)⟩
theorem gm_gX7_counter : gm_Tok gm_mX7_counter := gm_Tok_of (by decide +kernel) rfl
theorem gm_dX7_isFollowing : ∀ q ∈ gm_cX7_isFollowing, decode cX7_isFollowing q.1 = .ok q.2 ∧ gm_lenok q.2.1 q.2.2 = true := by decide +kernel
theorem gm_eX7_isFollowing : gm_Cok gm_mX7_isFollowing := ⟨fun pc i len h => gm_dX7_isFollowing (pc, (i, len)) (gm_asc_mem h), gm_putb_of (by decide +kernel)⟩
theorem gm_gX7_isFollowing : gm_Tok gm_mX7_isFollowing := gm_Tok_of (by decide +kernel) rfl
theorem gm_dX7_noGoal : ∀ q ∈ gm_cX7_noGoal, decode cX7_noGoal q.1 = .ok q.2 ∧ gm_lenok q.2.1 q.2.2 = true := by decide +kernel
theorem gm_eX7_noGoal : gm_Cok gm_mX7_noGoal := ⟨fun pc i len h => gm_dX7_noGoal (pc, (i, len)) (gm_asc_mem h), gm_putb_of (by decide +kernel)⟩
theorem gm_gX7_noGoal : gm_Tok gm_mX7_noGoal := gm_Tok_of (by decide +kernel) rfl
theorem gm_dX7_follows : ∀ q ∈ gm_cX7_follows, decode cX7_follows q.1 = .ok q.2 ∧ gm_lenok q.2.1 q.2.2 = true := by decide +kernel
theorem gm_eX7_follows : gm_Cok gm_mX7_follows := ⟨fun pc i len h => gm_dX7_follows (pc, (i, len)) (gm_asc_mem h), gm_putb_of (by decide +kernel)⟩
theorem gm_gX7_follows : gm_Tok gm_mX7_follows := gm_Tok_of (by decide +kernel) rfl
theorem gm_dX7_why : ∀ q ∈ gm_cX7_why, decode cX7_why q.1 = .ok q.2 ∧ gm_lenok q.2.1 q.2.2 = true := by decide +kernel
theorem gm_eX7_why : gm_Cok gm_mX7_why := ⟨fun pc i len h => gm_dX7_why (pc, (i, len)) (gm_asc_mem h), gm_putb_of (by decide +kernel)⟩
theorem gm_gX7_why : gm_Tok gm_mX7_why := gm_Tok_of (by decide +kernel) rfl
theorem gm_dX7_witness : ∀ q ∈ gm_cX7_witness, decode cX7_witness q.1 = .ok q.2 ∧ gm_lenok q.2.1 q.2.2 = true := by decide +kernel
theorem gm_eX7_witness : gm_Cok gm_mX7_witness := ⟨fun pc i len h => gm_dX7_witness (pc, (i, len)) (gm_asc_mem h), gm_putb_of (by decide +kernel)⟩
theorem gm_gX7_witness : gm_Tok gm_mX7_witness := gm_Tok_of (by decide +kernel) rfl
theorem gm_dX7_choose : ∀ q ∈ gm_cX7_choose, decode cX7_choose q.1 = .ok q.2 ∧ gm_lenok q.2.1 q.2.2 = true := by decide +kernel
theorem gm_eX7_choose : gm_Cok gm_mX7_choose := ⟨fun pc i len h => gm_dX7_choose (pc, (i, len)) (gm_asc_mem h), gm_putb_of (by decide +kernel)⟩
theorem gm_gX7_choose : gm_Tok gm_mX7_choose := gm_Tok_of (by decide +kernel) rfl
theorem gm_dX7_least : ∀ q ∈ gm_cX7_least, decode cX7_least q.1 = .ok q.2 ∧ gm_lenok q.2.1 q.2.2 = true := by decide +kernel
theorem gm_eX7_least : gm_Cok gm_mX7_least := ⟨fun pc i len h => gm_dX7_least (pc, (i, len)) (gm_asc_mem h), gm_putb_of (by decide +kernel)⟩
theorem gm_gX7_least : gm_Tok gm_mX7_least := gm_Tok_of (by decide +kernel) rfl
theorem gm_dX7_noCounterexample : ∀ q ∈ gm_cX7_noCounterexample, decode cX7_noCounterexample q.1 = .ok q.2 ∧ gm_lenok q.2.1 q.2.2 = true := by decide +kernel
theorem gm_eX7_noCounterexample : gm_Cok gm_mX7_noCounterexample := ⟨fun pc i len h => gm_dX7_noCounterexample (pc, (i, len)) (gm_asc_mem h), gm_putb_of (by decide +kernel)⟩
theorem gm_gX7_noCounterexample : gm_Tok gm_mX7_noCounterexample := gm_Tok_of (by decide +kernel) rfl
theorem gm_dX7_elements : ∀ q ∈ gm_cX7_elements, decode cX7_elements q.1 = .ok q.2 ∧ gm_lenok q.2.1 q.2.2 = true := by decide +kernel
theorem gm_eX7_elements : gm_Cok gm_mX7_elements := ⟨fun pc i len h => gm_dX7_elements (pc, (i, len)) (gm_asc_mem h), gm_putb_of (by decide +kernel)⟩
theorem gm_gX7_elements : gm_Tok gm_mX7_elements := gm_Tok_of (by decide +kernel) rfl
theorem gm_dX7_elementsByTrying : ∀ q ∈ gm_cX7_elementsByTrying, decode cX7_elementsByTrying q.1 = .ok q.2 ∧ gm_lenok q.2.1 q.2.2 = true := by decide +kernel
theorem gm_eX7_elementsByTrying : gm_Cok gm_mX7_elementsByTrying := ⟨fun pc i len h => gm_dX7_elementsByTrying (pc, (i, len)) (gm_asc_mem h), gm_putb_of (by decide +kernel)⟩
theorem gm_gX7_elementsByTrying : gm_Tok gm_mX7_elementsByTrying := gm_Tok_of (by decide +kernel) rfl
theorem gm_dX7_region : ∀ q ∈ gm_cX7_region, decode cX7_region q.1 = .ok q.2 ∧ gm_lenok q.2.1 q.2.2 = true := by decide +kernel
theorem gm_eX7_region : gm_Cok gm_mX7_region := ⟨fun pc i len h => gm_dX7_region (pc, (i, len)) (gm_asc_mem h), gm_putb_of (by decide +kernel)⟩
theorem gm_gX7_region : gm_Tok gm_mX7_region := gm_Tok_of (by decide +kernel) rfl
theorem gm_dX7_power : ∀ q ∈ gm_cX7_power, decode cX7_power q.1 = .ok q.2 ∧ gm_lenok q.2.1 q.2.2 = true := by decide +kernel
theorem gm_eX7_power : gm_Cok gm_mX7_power := ⟨fun pc i len h => gm_dX7_power (pc, (i, len)) (gm_asc_mem h), gm_putb_of (by decide +kernel)⟩
theorem gm_gX7_power : gm_Tok gm_mX7_power := gm_Tok_of (by decide +kernel) rfl
theorem gm_dX7_ways : ∀ q ∈ gm_cX7_ways, decode cX7_ways q.1 = .ok q.2 ∧ gm_lenok q.2.1 q.2.2 = true := by decide +kernel
theorem gm_eX7_ways : gm_Cok gm_mX7_ways := ⟨fun pc i len h => gm_dX7_ways (pc, (i, len)) (gm_asc_mem h), gm_putb_of (by decide +kernel)⟩
theorem gm_gX7_ways : gm_Tok gm_mX7_ways := gm_Tok_of (by decide +kernel) rfl
theorem gm_dX7_models : ∀ q ∈ gm_cX7_models, decode cX7_models q.1 = .ok q.2 ∧ gm_lenok q.2.1 q.2.2 = true := by decide +kernel
theorem gm_eX7_models : gm_Cok gm_mX7_models := ⟨fun pc i len h => gm_dX7_models (pc, (i, len)) (gm_asc_mem h), gm_putb_of (by decide +kernel)⟩
theorem gm_gX7_models : gm_Tok gm_mX7_models := gm_Tok_of (by decide +kernel) rfl
theorem gm_dX7_modelsByTrying : ∀ q ∈ gm_cX7_modelsByTrying, decode cX7_modelsByTrying q.1 = .ok q.2 ∧ gm_lenok q.2.1 q.2.2 = true := by decide +kernel
theorem gm_eX7_modelsByTrying : gm_Cok gm_mX7_modelsByTrying := ⟨fun pc i len h => gm_dX7_modelsByTrying (pc, (i, len)) (gm_asc_mem h), gm_putb_of (by decide +kernel)⟩
theorem gm_gX7_modelsByTrying : gm_Tok gm_mX7_modelsByTrying := gm_Tok_of (by decide +kernel) rfl
theorem gm_dX7_density : ∀ q ∈ gm_cX7_density, decode cX7_density q.1 = .ok q.2 ∧ gm_lenok q.2.1 q.2.2 = true := by decide +kernel
theorem gm_eX7_density : gm_Cok gm_mX7_density := ⟨fun pc i len h => gm_dX7_density (pc, (i, len)) (gm_asc_mem h), gm_putb_of (by decide +kernel)⟩
theorem gm_gX7_density : gm_Tok gm_mX7_density := gm_Tok_of (by decide +kernel) rfl
theorem gm_dJ6_bitCount_0f7a4 : ∀ q ∈ gm_cJ6_bitCount_0f7a4, decode cJ6_bitCount_0f7a4 q.1 = .ok q.2 ∧ gm_lenok q.2.1 q.2.2 = true := by decide +kernel
theorem gm_eJ6_bitCount_0f7a4 : gm_Cok gm_mJ6_bitCount_0f7a4 := ⟨fun pc i len h => gm_dJ6_bitCount_0f7a4 (pc, (i, len)) (gm_asc_mem h), gm_putb_of (by decide +kernel)⟩
theorem gm_gJ6_bitCount_0f7a4 : gm_Tok gm_mJ6_bitCount_0f7a4 := gm_Tok_of (by decide +kernel) rfl
theorem gm_dJ9_min_7cf53 : ∀ q ∈ gm_cJ9_min_7cf53, decode cJ9_min_7cf53 q.1 = .ok q.2 ∧ gm_lenok q.2.1 q.2.2 = true := by decide +kernel
theorem gm_eJ9_min_7cf53 : gm_Cok gm_mJ9_min_7cf53 := ⟨fun pc i len h => gm_dJ9_min_7cf53 (pc, (i, len)) (gm_asc_mem h), gm_putb_of (by decide +kernel)⟩
theorem gm_gJ9_min_7cf53 : gm_Tok gm_mJ9_min_7cf53 := gm_Tok_of (by decide +kernel) rfl
theorem gm_dL_letter : ∀ q ∈ gm_cL_letter, decode cL_letter q.1 = .ok q.2 ∧ gm_lenok q.2.1 q.2.2 = true := by decide +kernel
theorem gm_eL_letter : gm_Cok gm_mL_letter := ⟨fun pc i len h => gm_dL_letter (pc, (i, len)) (gm_asc_mem h), gm_putb_of (by decide +kernel)⟩
theorem gm_gL_letter : gm_Tok gm_mL_letter := ⟨fun pc k len E a b => (by have := gm_sites_mem (ex := gm_mL_letter.2.2.2.2.2.2.2.2.2.2.2) (gm_asc_mem a) b; rw [show gm_sites gm_mL_letter.2.2.2.2.2.2.2.2.2.2.2 gm_mL_letter.2.2.2.2.2.1 = [] by decide +kernel] at this; cases this), List.forall_mem_cons.mpr ⟨⟨"java/lang/IllegalArgumentException", rfl, by decide +kernel, gm_u286, by decide, List.mem_of_getElem? (l := lw_tbl) (i := 298) (by decide +kernel)⟩, List.forall_mem_cons.mpr ⟨⟨"java/lang/IllegalStateException", rfl, by decide +kernel, gm_u287, by decide, List.mem_of_getElem? (l := lw_tbl) (i := 400) (by decide +kernel)⟩, (fun _ h => nomatch h)⟩⟩, fun _ => by decide +kernel⟩
theorem gm_dL_empty : ∀ q ∈ gm_cL_empty, decode cL_empty q.1 = .ok q.2 ∧ gm_lenok q.2.1 q.2.2 = true := by decide +kernel
theorem gm_eL_empty : gm_Cok gm_mL_empty := ⟨fun pc i len h => gm_dL_empty (pc, (i, len)) (gm_asc_mem h), gm_putb_of (by decide +kernel)⟩
theorem gm_gL_empty : gm_Tok gm_mL_empty := ⟨fun pc k len E a b => (by have := gm_sites_mem (ex := gm_mL_empty.2.2.2.2.2.2.2.2.2.2.2) (gm_asc_mem a) b; rw [show gm_sites gm_mL_empty.2.2.2.2.2.2.2.2.2.2.2 gm_mL_empty.2.2.2.2.2.1 = [] by decide +kernel] at this; cases this), List.forall_mem_cons.mpr ⟨⟨"java/lang/IllegalStateException", rfl, by decide +kernel, gm_u287, by decide, List.mem_of_getElem? (l := lw_tbl) (i := 400) (by decide +kernel)⟩, (fun _ h => nomatch h)⟩, fun _ => by decide +kernel⟩
theorem gm_dL_universe : ∀ q ∈ gm_cL_universe, decode cL_universe q.1 = .ok q.2 ∧ gm_lenok q.2.1 q.2.2 = true := by decide +kernel
theorem gm_eL_universe : gm_Cok gm_mL_universe := ⟨fun pc i len h => gm_dL_universe (pc, (i, len)) (gm_asc_mem h), gm_putb_of (by decide +kernel)⟩
theorem gm_gL_universe : gm_Tok gm_mL_universe := ⟨fun pc k len E a b => (by have := gm_sites_mem (ex := gm_mL_universe.2.2.2.2.2.2.2.2.2.2.2) (gm_asc_mem a) b; rw [show gm_sites gm_mL_universe.2.2.2.2.2.2.2.2.2.2.2 gm_mL_universe.2.2.2.2.2.1 = [] by decide +kernel] at this; cases this), List.forall_mem_cons.mpr ⟨⟨"java/lang/IllegalStateException", rfl, by decide +kernel, gm_u287, by decide, List.mem_of_getElem? (l := lw_tbl) (i := 400) (by decide +kernel)⟩, (fun _ h => nomatch h)⟩, fun _ => by decide +kernel⟩
theorem gm_dL_complement : ∀ q ∈ gm_cL_complement, decode cL_complement q.1 = .ok q.2 ∧ gm_lenok q.2.1 q.2.2 = true := by decide +kernel
theorem gm_eL_complement : gm_Cok gm_mL_complement := ⟨fun pc i len h => gm_dL_complement (pc, (i, len)) (gm_asc_mem h), gm_putb_of (by decide +kernel)⟩
theorem gm_gL_complement : gm_Tok gm_mL_complement := ⟨fun pc k len E a b => (by have := gm_sites_mem (ex := gm_mL_complement.2.2.2.2.2.2.2.2.2.2.2) (gm_asc_mem a) b; rw [show gm_sites gm_mL_complement.2.2.2.2.2.2.2.2.2.2.2 gm_mL_complement.2.2.2.2.2.1 = [] by decide +kernel] at this; cases this), List.forall_mem_cons.mpr ⟨⟨"java/lang/IndexOutOfBoundsException", rfl, by decide +kernel, gm_u431, by decide, List.mem_of_getElem? (l := lw_tbl) (i := 443) (by decide +kernel)⟩, List.forall_mem_cons.mpr ⟨⟨"java/lang/IllegalStateException", rfl, by decide +kernel, gm_u287, by decide, List.mem_of_getElem? (l := lw_tbl) (i := 400) (by decide +kernel)⟩, (fun _ h => nomatch h)⟩⟩, fun _ => by decide +kernel⟩
theorem gm_dL_union : ∀ q ∈ gm_cL_union, decode cL_union q.1 = .ok q.2 ∧ gm_lenok q.2.1 q.2.2 = true := by decide +kernel
theorem gm_eL_union : gm_Cok gm_mL_union := ⟨fun pc i len h => gm_dL_union (pc, (i, len)) (gm_asc_mem h), gm_putb_of (by decide +kernel)⟩
theorem gm_gL_union : gm_Tok gm_mL_union := ⟨fun pc k len E a b => (by have := gm_sites_mem (ex := gm_mL_union.2.2.2.2.2.2.2.2.2.2.2) (gm_asc_mem a) b; rw [show gm_sites gm_mL_union.2.2.2.2.2.2.2.2.2.2.2 gm_mL_union.2.2.2.2.2.1 = [] by decide +kernel] at this; cases this), List.forall_mem_cons.mpr ⟨⟨"java/lang/IndexOutOfBoundsException", rfl, by decide +kernel, gm_u431, by decide, List.mem_of_getElem? (l := lw_tbl) (i := 443) (by decide +kernel)⟩, List.forall_mem_cons.mpr ⟨⟨"java/lang/IllegalStateException", rfl, by decide +kernel, gm_u287, by decide, List.mem_of_getElem? (l := lw_tbl) (i := 400) (by decide +kernel)⟩, (fun _ h => nomatch h)⟩⟩, fun _ => by decide +kernel⟩
theorem gm_dL_intersection : ∀ q ∈ gm_cL_intersection, decode cL_intersection q.1 = .ok q.2 ∧ gm_lenok q.2.1 q.2.2 = true := by decide +kernel
theorem gm_eL_intersection : gm_Cok gm_mL_intersection := ⟨fun pc i len h => gm_dL_intersection (pc, (i, len)) (gm_asc_mem h), gm_putb_of (by decide +kernel)⟩
theorem gm_gL_intersection : gm_Tok gm_mL_intersection := ⟨fun pc k len E a b => (by have := gm_sites_mem (ex := gm_mL_intersection.2.2.2.2.2.2.2.2.2.2.2) (gm_asc_mem a) b; rw [show gm_sites gm_mL_intersection.2.2.2.2.2.2.2.2.2.2.2 gm_mL_intersection.2.2.2.2.2.1 = [] by decide +kernel] at this; cases this), List.forall_mem_cons.mpr ⟨⟨"java/lang/IndexOutOfBoundsException", rfl, by decide +kernel, gm_u431, by decide, List.mem_of_getElem? (l := lw_tbl) (i := 443) (by decide +kernel)⟩, List.forall_mem_cons.mpr ⟨⟨"java/lang/IllegalStateException", rfl, by decide +kernel, gm_u287, by decide, List.mem_of_getElem? (l := lw_tbl) (i := 400) (by decide +kernel)⟩, (fun _ h => nomatch h)⟩⟩, fun _ => by decide +kernel⟩
theorem gm_dL_difference : ∀ q ∈ gm_cL_difference, decode cL_difference q.1 = .ok q.2 ∧ gm_lenok q.2.1 q.2.2 = true := by decide +kernel
theorem gm_eL_difference : gm_Cok gm_mL_difference := ⟨fun pc i len h => gm_dL_difference (pc, (i, len)) (gm_asc_mem h), gm_putb_of (by decide +kernel)⟩
theorem gm_gL_difference : gm_Tok gm_mL_difference := ⟨fun pc k len E a b => (by have := gm_sites_mem (ex := gm_mL_difference.2.2.2.2.2.2.2.2.2.2.2) (gm_asc_mem a) b; rw [show gm_sites gm_mL_difference.2.2.2.2.2.2.2.2.2.2.2 gm_mL_difference.2.2.2.2.2.1 = [] by decide +kernel] at this; cases this), List.forall_mem_cons.mpr ⟨⟨"java/lang/IndexOutOfBoundsException", rfl, by decide +kernel, gm_u431, by decide, List.mem_of_getElem? (l := lw_tbl) (i := 443) (by decide +kernel)⟩, List.forall_mem_cons.mpr ⟨⟨"java/lang/IllegalStateException", rfl, by decide +kernel, gm_u287, by decide, List.mem_of_getElem? (l := lw_tbl) (i := 400) (by decide +kernel)⟩, (fun _ h => nomatch h)⟩⟩, fun _ => by decide +kernel⟩
theorem gm_dL_symmetric : ∀ q ∈ gm_cL_symmetric, decode cL_symmetric q.1 = .ok q.2 ∧ gm_lenok q.2.1 q.2.2 = true := by decide +kernel
theorem gm_eL_symmetric : gm_Cok gm_mL_symmetric := ⟨fun pc i len h => gm_dL_symmetric (pc, (i, len)) (gm_asc_mem h), gm_putb_of (by decide +kernel)⟩
theorem gm_gL_symmetric : gm_Tok gm_mL_symmetric := ⟨fun pc k len E a b => (by have := gm_sites_mem (ex := gm_mL_symmetric.2.2.2.2.2.2.2.2.2.2.2) (gm_asc_mem a) b; rw [show gm_sites gm_mL_symmetric.2.2.2.2.2.2.2.2.2.2.2 gm_mL_symmetric.2.2.2.2.2.1 = [] by decide +kernel] at this; cases this), List.forall_mem_cons.mpr ⟨⟨"java/lang/IndexOutOfBoundsException", rfl, by decide +kernel, gm_u431, by decide, List.mem_of_getElem? (l := lw_tbl) (i := 443) (by decide +kernel)⟩, List.forall_mem_cons.mpr ⟨⟨"java/lang/IllegalStateException", rfl, by decide +kernel, gm_u287, by decide, List.mem_of_getElem? (l := lw_tbl) (i := 400) (by decide +kernel)⟩, (fun _ h => nomatch h)⟩⟩, fun _ => by decide +kernel⟩
theorem gm_dL_size : ∀ q ∈ gm_cL_size, decode cL_size q.1 = .ok q.2 ∧ gm_lenok q.2.1 q.2.2 = true := by decide +kernel
theorem gm_eL_size : gm_Cok gm_mL_size := ⟨fun pc i len h => gm_dL_size (pc, (i, len)) (gm_asc_mem h), gm_putb_of (by decide +kernel)⟩
theorem gm_gL_size : gm_Tok gm_mL_size := ⟨fun pc k len E a b => (by have := gm_sites_mem (ex := gm_mL_size.2.2.2.2.2.2.2.2.2.2.2) (gm_asc_mem a) b; rw [show gm_sites gm_mL_size.2.2.2.2.2.2.2.2.2.2.2 gm_mL_size.2.2.2.2.2.1 = [] by decide +kernel] at this; cases this), List.forall_mem_cons.mpr ⟨⟨"java/lang/IndexOutOfBoundsException", rfl, by decide +kernel, gm_u431, by decide, List.mem_of_getElem? (l := lw_tbl) (i := 443) (by decide +kernel)⟩, (fun _ h => nomatch h)⟩, fun _ => by decide +kernel⟩
theorem gm_dL_symbol : ∀ q ∈ gm_cL_symbol, decode cL_symbol q.1 = .ok q.2 ∧ gm_lenok q.2.1 q.2.2 = true := by decide +kernel
theorem gm_eL_symbol : gm_Cok gm_mL_symbol := ⟨fun pc i len h => gm_dL_symbol (pc, (i, len)) (gm_asc_mem h), gm_putb_of (by decide +kernel)⟩
theorem gm_gL_symbol : gm_Tok gm_mL_symbol := ⟨fun pc k len E a b => (by have := gm_sites_mem (ex := gm_mL_symbol.2.2.2.2.2.2.2.2.2.2.2) (gm_asc_mem a) b; rw [show gm_sites gm_mL_symbol.2.2.2.2.2.2.2.2.2.2.2 gm_mL_symbol.2.2.2.2.2.1 = [] by decide +kernel] at this; cases this), List.forall_mem_cons.mpr ⟨⟨"java/lang/IndexOutOfBoundsException", rfl, by decide +kernel, gm_u431, by decide, List.mem_of_getElem? (l := lw_tbl) (i := 443) (by decide +kernel)⟩, List.forall_mem_cons.mpr ⟨⟨"java/util/NoSuchElementException", rfl, by decide +kernel, gm_u500, by decide, List.mem_of_getElem? (l := lw_tbl) (i := 507) (by decide +kernel)⟩, (fun _ h => nomatch h)⟩⟩, fun _ => by decide +kernel⟩
theorem gm_dL_regions : ∀ q ∈ gm_cL_regions, decode cL_regions q.1 = .ok q.2 ∧ gm_lenok q.2.1 q.2.2 = true := by decide +kernel
theorem gm_eL_regions : gm_Cok gm_mL_regions := ⟨fun pc i len h => gm_dL_regions (pc, (i, len)) (gm_asc_mem h), gm_putb_of (by decide +kernel)⟩
theorem gm_gL_regions : gm_Tok gm_mL_regions := ⟨fun pc k len E a b => (by have := gm_sites_mem (ex := gm_mL_regions.2.2.2.2.2.2.2.2.2.2.2) (gm_asc_mem a) b; rw [show gm_sites gm_mL_regions.2.2.2.2.2.2.2.2.2.2.2 gm_mL_regions.2.2.2.2.2.1 = [] by decide +kernel] at this; cases this), List.forall_mem_cons.mpr ⟨⟨"java/lang/IndexOutOfBoundsException", rfl, by decide +kernel, gm_u431, by decide, List.mem_of_getElem? (l := lw_tbl) (i := 443) (by decide +kernel)⟩, (fun _ h => nomatch h)⟩, fun _ => by decide +kernel⟩
theorem gm_dL_covers : ∀ q ∈ gm_cL_covers, decode cL_covers q.1 = .ok q.2 ∧ gm_lenok q.2.1 q.2.2 = true := by decide +kernel
theorem gm_eL_covers : gm_Cok gm_mL_covers := ⟨fun pc i len h => gm_dL_covers (pc, (i, len)) (gm_asc_mem h), gm_putb_of (by decide +kernel)⟩
theorem gm_gL_covers : gm_Tok gm_mL_covers := ⟨fun pc k len E a b => (by have := gm_sites_mem (ex := gm_mL_covers.2.2.2.2.2.2.2.2.2.2.2) (gm_asc_mem a) b; rw [show gm_sites gm_mL_covers.2.2.2.2.2.2.2.2.2.2.2 gm_mL_covers.2.2.2.2.2.1 = [] by decide +kernel] at this; cases this), List.forall_mem_cons.mpr ⟨⟨"java/lang/IndexOutOfBoundsException", rfl, by decide +kernel, gm_u431, by decide, List.mem_of_getElem? (l := lw_tbl) (i := 443) (by decide +kernel)⟩, List.forall_mem_cons.mpr ⟨⟨"java/lang/IllegalArgumentException", rfl, by decide +kernel, gm_u286, by decide, List.mem_of_getElem? (l := lw_tbl) (i := 298) (by decide +kernel)⟩, (fun _ h => nomatch h)⟩⟩, fun _ => by decide +kernel⟩
theorem gm_dL_coversByTerm : ∀ q ∈ gm_cL_coversByTerm, decode cL_coversByTerm q.1 = .ok q.2 ∧ gm_lenok q.2.1 q.2.2 = true := by decide +kernel
theorem gm_eL_coversByTerm : gm_Cok gm_mL_coversByTerm := ⟨fun pc i len h => gm_dL_coversByTerm (pc, (i, len)) (gm_asc_mem h), gm_putb_of (by decide +kernel)⟩
theorem gm_gL_coversByTerm : gm_Tok gm_mL_coversByTerm := ⟨fun pc k len E a b => (by have := gm_sites_mem (ex := gm_mL_coversByTerm.2.2.2.2.2.2.2.2.2.2.2) (gm_asc_mem a) b; rw [show gm_sites gm_mL_coversByTerm.2.2.2.2.2.2.2.2.2.2.2 gm_mL_coversByTerm.2.2.2.2.2.1 = [] by decide +kernel] at this; cases this), List.forall_mem_cons.mpr ⟨⟨"java/lang/IndexOutOfBoundsException", rfl, by decide +kernel, gm_u431, by decide, List.mem_of_getElem? (l := lw_tbl) (i := 443) (by decide +kernel)⟩, List.forall_mem_cons.mpr ⟨⟨"java/lang/IllegalArgumentException", rfl, by decide +kernel, gm_u286, by decide, List.mem_of_getElem? (l := lw_tbl) (i := 298) (by decide +kernel)⟩, (fun _ h => nomatch h)⟩⟩, fun _ => by decide +kernel⟩
theorem gm_dL_isEqual : ∀ q ∈ gm_cL_isEqual, decode cL_isEqual q.1 = .ok q.2 ∧ gm_lenok q.2.1 q.2.2 = true := by decide +kernel
theorem gm_eL_isEqual : gm_Cok gm_mL_isEqual := ⟨fun pc i len h => gm_dL_isEqual (pc, (i, len)) (gm_asc_mem h), gm_putb_of (by decide +kernel)⟩
theorem gm_gL_isEqual : gm_Tok gm_mL_isEqual := ⟨fun pc k len E a b => (by have := gm_sites_mem (ex := gm_mL_isEqual.2.2.2.2.2.2.2.2.2.2.2) (gm_asc_mem a) b; rw [show gm_sites gm_mL_isEqual.2.2.2.2.2.2.2.2.2.2.2 gm_mL_isEqual.2.2.2.2.2.1 = [] by decide +kernel] at this; cases this), List.forall_mem_cons.mpr ⟨⟨"java/lang/IndexOutOfBoundsException", rfl, by decide +kernel, gm_u431, by decide, List.mem_of_getElem? (l := lw_tbl) (i := 443) (by decide +kernel)⟩, (fun _ h => nomatch h)⟩, fun _ => by decide +kernel⟩
theorem gm_dL_rule : ∀ q ∈ gm_cL_rule, decode cL_rule q.1 = .ok q.2 ∧ gm_lenok q.2.1 q.2.2 = true := by decide +kernel
theorem gm_eL_rule : gm_Cok gm_mL_rule := ⟨fun pc i len h => gm_dL_rule (pc, (i, len)) (gm_asc_mem h), gm_putb_of (by decide +kernel)⟩
theorem gm_gL_rule : gm_Tok gm_mL_rule := ⟨fun pc k len E a b => (by have := gm_sites_mem (ex := gm_mL_rule.2.2.2.2.2.2.2.2.2.2.2) (gm_asc_mem a) b; rw [show gm_sites gm_mL_rule.2.2.2.2.2.2.2.2.2.2.2 gm_mL_rule.2.2.2.2.2.1 = [] by decide +kernel] at this; cases this), List.forall_mem_cons.mpr ⟨⟨"java/lang/IndexOutOfBoundsException", rfl, by decide +kernel, gm_u431, by decide, List.mem_of_getElem? (l := lw_tbl) (i := 443) (by decide +kernel)⟩, List.forall_mem_cons.mpr ⟨⟨"java/util/NoSuchElementException", rfl, by decide +kernel, gm_u500, by decide, List.mem_of_getElem? (l := lw_tbl) (i := 507) (by decide +kernel)⟩, (fun _ h => nomatch h)⟩⟩, fun _ => by decide +kernel⟩
theorem gm_dL_step : ∀ q ∈ gm_cL_step, decode cL_step q.1 = .ok q.2 ∧ gm_lenok q.2.1 q.2.2 = true := by decide +kernel
theorem gm_eL_step : gm_Cok gm_mL_step := ⟨fun pc i len h => gm_dL_step (pc, (i, len)) (gm_asc_mem h), gm_putb_of (by decide +kernel)⟩
theorem gm_gL_step : gm_Tok gm_mL_step := ⟨fun pc k len E a b => (by have := gm_sites_mem (ex := gm_mL_step.2.2.2.2.2.2.2.2.2.2.2) (gm_asc_mem a) b; rw [show gm_sites gm_mL_step.2.2.2.2.2.2.2.2.2.2.2 gm_mL_step.2.2.2.2.2.1 = [] by decide +kernel] at this; cases this), List.forall_mem_cons.mpr ⟨⟨"java/lang/IndexOutOfBoundsException", rfl, by decide +kernel, gm_u431, by decide, List.mem_of_getElem? (l := lw_tbl) (i := 443) (by decide +kernel)⟩, List.forall_mem_cons.mpr ⟨⟨"java/util/NoSuchElementException", rfl, by decide +kernel, gm_u500, by decide, List.mem_of_getElem? (l := lw_tbl) (i := 507) (by decide +kernel)⟩, List.forall_mem_cons.mpr ⟨⟨"java/lang/UnsupportedOperationException", rfl, by decide +kernel, gm_u663, by decide, List.mem_of_getElem? (l := lw_tbl) (i := 702) (by decide +kernel)⟩, List.forall_mem_cons.mpr ⟨⟨"java/lang/IllegalStateException", rfl, by decide +kernel, gm_u287, by decide, List.mem_of_getElem? (l := lw_tbl) (i := 400) (by decide +kernel)⟩, (fun _ h => nomatch h)⟩⟩⟩⟩, fun _ => by decide +kernel⟩
theorem gm_dL_steps : ∀ q ∈ gm_cL_steps, decode cL_steps q.1 = .ok q.2 ∧ gm_lenok q.2.1 q.2.2 = true := by decide +kernel
theorem gm_eL_steps : gm_Cok gm_mL_steps := ⟨fun pc i len h => gm_dL_steps (pc, (i, len)) (gm_asc_mem h), gm_putb_of (by decide +kernel)⟩
theorem gm_gL_steps : gm_Tok gm_mL_steps := ⟨fun pc k len E a b => (by have := gm_sites_mem (ex := gm_mL_steps.2.2.2.2.2.2.2.2.2.2.2) (gm_asc_mem a) b; rw [show gm_sites gm_mL_steps.2.2.2.2.2.2.2.2.2.2.2 gm_mL_steps.2.2.2.2.2.1 = [] by decide +kernel] at this; cases this), List.forall_mem_cons.mpr ⟨⟨"java/lang/IndexOutOfBoundsException", rfl, by decide +kernel, gm_u431, by decide, List.mem_of_getElem? (l := lw_tbl) (i := 443) (by decide +kernel)⟩, (fun _ h => nomatch h)⟩, fun _ => by decide +kernel⟩
theorem gm_dL_normalForm : ∀ q ∈ gm_cL_normalForm, decode cL_normalForm q.1 = .ok q.2 ∧ gm_lenok q.2.1 q.2.2 = true := by decide +kernel
theorem gm_eL_normalForm : gm_Cok gm_mL_normalForm := ⟨fun pc i len h => gm_dL_normalForm (pc, (i, len)) (gm_asc_mem h), gm_putb_of (by decide +kernel)⟩
theorem gm_gL_normalForm : gm_Tok gm_mL_normalForm := ⟨fun pc k len E a b => (by have := gm_sites_mem (ex := gm_mL_normalForm.2.2.2.2.2.2.2.2.2.2.2) (gm_asc_mem a) b; rw [show gm_sites gm_mL_normalForm.2.2.2.2.2.2.2.2.2.2.2 gm_mL_normalForm.2.2.2.2.2.1 = [] by decide +kernel] at this; cases this), List.forall_mem_cons.mpr ⟨⟨"java/lang/IndexOutOfBoundsException", rfl, by decide +kernel, gm_u431, by decide, List.mem_of_getElem? (l := lw_tbl) (i := 443) (by decide +kernel)⟩, List.forall_mem_cons.mpr ⟨⟨"java/lang/UnsupportedOperationException", rfl, by decide +kernel, gm_u663, by decide, List.mem_of_getElem? (l := lw_tbl) (i := 702) (by decide +kernel)⟩, List.forall_mem_cons.mpr ⟨⟨"java/lang/IllegalStateException", rfl, by decide +kernel, gm_u287, by decide, List.mem_of_getElem? (l := lw_tbl) (i := 400) (by decide +kernel)⟩, (fun _ h => nomatch h)⟩⟩⟩, fun _ => by decide +kernel⟩
theorem gm_dL_primes : ∀ q ∈ gm_cL_primes, decode cL_primes q.1 = .ok q.2 ∧ gm_lenok q.2.1 q.2.2 = true := by decide +kernel
theorem gm_eL_primes : gm_Cok gm_mL_primes := ⟨fun pc i len h => gm_dL_primes (pc, (i, len)) (gm_asc_mem h), gm_putb_of (by decide +kernel)⟩
theorem gm_gL_primes : gm_Tok gm_mL_primes := ⟨fun pc k len E a b => (by have := gm_sites_mem (ex := gm_mL_primes.2.2.2.2.2.2.2.2.2.2.2) (gm_asc_mem a) b; rw [show gm_sites gm_mL_primes.2.2.2.2.2.2.2.2.2.2.2 gm_mL_primes.2.2.2.2.2.1 = [] by decide +kernel] at this; cases this), List.forall_mem_cons.mpr ⟨⟨"java/lang/IndexOutOfBoundsException", rfl, by decide +kernel, gm_u431, by decide, List.mem_of_getElem? (l := lw_tbl) (i := 443) (by decide +kernel)⟩, (fun _ h => nomatch h)⟩, fun _ => by decide +kernel⟩
theorem gm_dL_primesByTrying : ∀ q ∈ gm_cL_primesByTrying, decode cL_primesByTrying q.1 = .ok q.2 ∧ gm_lenok q.2.1 q.2.2 = true := by decide +kernel
theorem gm_eL_primesByTrying : gm_Cok gm_mL_primesByTrying := ⟨fun pc i len h => gm_dL_primesByTrying (pc, (i, len)) (gm_asc_mem h), gm_putb_of (by decide +kernel)⟩
theorem gm_gL_primesByTrying : gm_Tok gm_mL_primesByTrying := ⟨fun pc k len E a b => (by have := gm_sites_mem (ex := gm_mL_primesByTrying.2.2.2.2.2.2.2.2.2.2.2) (gm_asc_mem a) b; rw [show gm_sites gm_mL_primesByTrying.2.2.2.2.2.2.2.2.2.2.2 gm_mL_primesByTrying.2.2.2.2.2.1 = [] by decide +kernel] at this; cases this), List.forall_mem_cons.mpr ⟨⟨"java/lang/IndexOutOfBoundsException", rfl, by decide +kernel, gm_u431, by decide, List.mem_of_getElem? (l := lw_tbl) (i := 443) (by decide +kernel)⟩, (fun _ h => nomatch h)⟩, fun _ => by decide +kernel⟩
theorem gm_dL_prime : ∀ q ∈ gm_cL_prime, decode cL_prime q.1 = .ok q.2 ∧ gm_lenok q.2.1 q.2.2 = true := by decide +kernel
theorem gm_eL_prime : gm_Cok gm_mL_prime := ⟨fun pc i len h => gm_dL_prime (pc, (i, len)) (gm_asc_mem h), gm_putb_of (by decide +kernel)⟩
theorem gm_gL_prime : gm_Tok gm_mL_prime := ⟨fun pc k len E a b => (by have := gm_sites_mem (ex := gm_mL_prime.2.2.2.2.2.2.2.2.2.2.2) (gm_asc_mem a) b; rw [show gm_sites gm_mL_prime.2.2.2.2.2.2.2.2.2.2.2 gm_mL_prime.2.2.2.2.2.1 = [] by decide +kernel] at this; cases this), List.forall_mem_cons.mpr ⟨⟨"java/lang/IndexOutOfBoundsException", rfl, by decide +kernel, gm_u431, by decide, List.mem_of_getElem? (l := lw_tbl) (i := 443) (by decide +kernel)⟩, List.forall_mem_cons.mpr ⟨⟨"java/util/NoSuchElementException", rfl, by decide +kernel, gm_u500, by decide, List.mem_of_getElem? (l := lw_tbl) (i := 507) (by decide +kernel)⟩, List.forall_mem_cons.mpr ⟨⟨"java/lang/IllegalArgumentException", rfl, by decide +kernel, gm_u286, by decide, List.mem_of_getElem? (l := lw_tbl) (i := 298) (by decide +kernel)⟩, (fun _ h => nomatch h)⟩⟩⟩, fun _ => by decide +kernel⟩
theorem gm_dL_assume : ∀ q ∈ gm_cL_assume, decode cL_assume q.1 = .ok q.2 ∧ gm_lenok q.2.1 q.2.2 = true := by decide +kernel
theorem gm_eL_assume : gm_Cok gm_mL_assume := ⟨fun pc i len h => gm_dL_assume (pc, (i, len)) (gm_asc_mem h), gm_putb_of (by decide +kernel)⟩
theorem gm_gL_assume : gm_Tok gm_mL_assume := ⟨fun pc k len E a b => (by have := gm_sites_mem (ex := gm_mL_assume.2.2.2.2.2.2.2.2.2.2.2) (gm_asc_mem a) b; rw [show gm_sites gm_mL_assume.2.2.2.2.2.2.2.2.2.2.2 gm_mL_assume.2.2.2.2.2.1 = [] by decide +kernel] at this; cases this), List.forall_mem_cons.mpr ⟨⟨"java/lang/IllegalArgumentException", rfl, by decide +kernel, gm_u286, by decide, List.mem_of_getElem? (l := lw_tbl) (i := 298) (by decide +kernel)⟩, List.forall_mem_cons.mpr ⟨⟨"java/lang/IndexOutOfBoundsException", rfl, by decide +kernel, gm_u431, by decide, List.mem_of_getElem? (l := lw_tbl) (i := 443) (by decide +kernel)⟩, List.forall_mem_cons.mpr ⟨⟨"java/lang/IllegalStateException", rfl, by decide +kernel, gm_u287, by decide, List.mem_of_getElem? (l := lw_tbl) (i := 400) (by decide +kernel)⟩, (fun _ h => nomatch h)⟩⟩⟩, fun _ => by decide +kernel⟩
theorem gm_dL_drop : ∀ q ∈ gm_cL_drop, decode cL_drop q.1 = .ok q.2 ∧ gm_lenok q.2.1 q.2.2 = true := by decide +kernel
theorem gm_eL_drop : gm_Cok gm_mL_drop := ⟨fun pc i len h => gm_dL_drop (pc, (i, len)) (gm_asc_mem h), gm_putb_of (by decide +kernel)⟩
theorem gm_gL_drop : gm_Tok gm_mL_drop := ⟨fun pc k len E a b => (by have := gm_sites_mem (ex := gm_mL_drop.2.2.2.2.2.2.2.2.2.2.2) (gm_asc_mem a) b; rw [show gm_sites gm_mL_drop.2.2.2.2.2.2.2.2.2.2.2 gm_mL_drop.2.2.2.2.2.1 = [] by decide +kernel] at this; cases this), List.forall_mem_cons.mpr ⟨⟨"java/lang/IllegalStateException", rfl, by decide +kernel, gm_u287, by decide, List.mem_of_getElem? (l := lw_tbl) (i := 400) (by decide +kernel)⟩, (fun _ h => nomatch h)⟩, fun _ => by decide +kernel⟩
theorem gm_dL_setGoal : ∀ q ∈ gm_cL_setGoal, decode cL_setGoal q.1 = .ok q.2 ∧ gm_lenok q.2.1 q.2.2 = true := by decide +kernel
theorem gm_eL_setGoal : gm_Cok gm_mL_setGoal := ⟨fun pc i len h => gm_dL_setGoal (pc, (i, len)) (gm_asc_mem h), gm_putb_of (by decide +kernel)⟩
theorem gm_gL_setGoal : gm_Tok gm_mL_setGoal := ⟨fun pc k len E a b => (by have := gm_sites_mem (ex := gm_mL_setGoal.2.2.2.2.2.2.2.2.2.2.2) (gm_asc_mem a) b; rw [show gm_sites gm_mL_setGoal.2.2.2.2.2.2.2.2.2.2.2 gm_mL_setGoal.2.2.2.2.2.1 = [] by decide +kernel] at this; cases this), List.forall_mem_cons.mpr ⟨⟨"java/lang/IllegalArgumentException", rfl, by decide +kernel, gm_u286, by decide, List.mem_of_getElem? (l := lw_tbl) (i := 298) (by decide +kernel)⟩, List.forall_mem_cons.mpr ⟨⟨"java/lang/IndexOutOfBoundsException", rfl, by decide +kernel, gm_u431, by decide, List.mem_of_getElem? (l := lw_tbl) (i := 443) (by decide +kernel)⟩, (fun _ h => nomatch h)⟩⟩, fun _ => by decide +kernel⟩
theorem gm_dL_deniedBy : ∀ q ∈ gm_cL_deniedBy, decode cL_deniedBy q.1 = .ok q.2 ∧ gm_lenok q.2.1 q.2.2 = true := by decide +kernel
theorem gm_eL_deniedBy : gm_Cok gm_mL_deniedBy := ⟨fun pc i len h => gm_dL_deniedBy (pc, (i, len)) (gm_asc_mem h), gm_putb_of (by decide +kernel)⟩
theorem gm_gL_deniedBy : gm_Tok gm_mL_deniedBy := ⟨fun pc k len E a b => (by have := gm_sites_mem (ex := gm_mL_deniedBy.2.2.2.2.2.2.2.2.2.2.2) (gm_asc_mem a) b; rw [show gm_sites gm_mL_deniedBy.2.2.2.2.2.2.2.2.2.2.2 gm_mL_deniedBy.2.2.2.2.2.1 = [] by decide +kernel] at this; cases this), List.forall_mem_cons.mpr ⟨⟨"java/lang/IllegalArgumentException", rfl, by decide +kernel, gm_u286, by decide, List.mem_of_getElem? (l := lw_tbl) (i := 298) (by decide +kernel)⟩, List.forall_mem_cons.mpr ⟨⟨"java/util/NoSuchElementException", rfl, by decide +kernel, gm_u500, by decide, List.mem_of_getElem? (l := lw_tbl) (i := 507) (by decide +kernel)⟩, (fun _ h => nomatch h)⟩⟩, fun _ => by decide +kernel⟩
theorem gm_dL_follows : ∀ q ∈ gm_cL_follows, decode cL_follows q.1 = .ok q.2 ∧ gm_lenok q.2.1 q.2.2 = true := by decide +kernel
theorem gm_eL_follows : gm_Cok gm_mL_follows := ⟨fun pc i len h => gm_dL_follows (pc, (i, len)) (gm_asc_mem h), gm_putb_of (by decide +kernel)⟩
theorem gm_gL_follows : gm_Tok gm_mL_follows := ⟨fun pc k len E a b => (by have := gm_sites_mem (ex := gm_mL_follows.2.2.2.2.2.2.2.2.2.2.2) (gm_asc_mem a) b; rw [show gm_sites gm_mL_follows.2.2.2.2.2.2.2.2.2.2.2 gm_mL_follows.2.2.2.2.2.1 = [] by decide +kernel] at this; cases this), List.forall_mem_cons.mpr ⟨⟨"java/lang/IllegalStateException", rfl, by decide +kernel, gm_u287, by decide, List.mem_of_getElem? (l := lw_tbl) (i := 400) (by decide +kernel)⟩, (fun _ h => nomatch h)⟩, fun _ => by decide +kernel⟩
theorem gm_dL_why : ∀ q ∈ gm_cL_why, decode cL_why q.1 = .ok q.2 ∧ gm_lenok q.2.1 q.2.2 = true := by decide +kernel
theorem gm_eL_why : gm_Cok gm_mL_why := ⟨fun pc i len h => gm_dL_why (pc, (i, len)) (gm_asc_mem h), gm_putb_of (by decide +kernel)⟩
theorem gm_gL_why : gm_Tok gm_mL_why := ⟨fun pc k len E a b => (by have := gm_sites_mem (ex := gm_mL_why.2.2.2.2.2.2.2.2.2.2.2) (gm_asc_mem a) b; rw [show gm_sites gm_mL_why.2.2.2.2.2.2.2.2.2.2.2 gm_mL_why.2.2.2.2.2.1 = [] by decide +kernel] at this; cases this), List.forall_mem_cons.mpr ⟨⟨"java/lang/IllegalStateException", rfl, by decide +kernel, gm_u287, by decide, List.mem_of_getElem? (l := lw_tbl) (i := 400) (by decide +kernel)⟩, List.forall_mem_cons.mpr ⟨⟨"java/util/NoSuchElementException", rfl, by decide +kernel, gm_u500, by decide, List.mem_of_getElem? (l := lw_tbl) (i := 507) (by decide +kernel)⟩, (fun _ h => nomatch h)⟩⟩, fun _ => by decide +kernel⟩
theorem gm_dL_witness : ∀ q ∈ gm_cL_witness, decode cL_witness q.1 = .ok q.2 ∧ gm_lenok q.2.1 q.2.2 = true := by decide +kernel
theorem gm_eL_witness : gm_Cok gm_mL_witness := ⟨fun pc i len h => gm_dL_witness (pc, (i, len)) (gm_asc_mem h), gm_putb_of (by decide +kernel)⟩
theorem gm_gL_witness : gm_Tok gm_mL_witness := ⟨fun pc k len E a b => (by have := gm_sites_mem (ex := gm_mL_witness.2.2.2.2.2.2.2.2.2.2.2) (gm_asc_mem a) b; rw [show gm_sites gm_mL_witness.2.2.2.2.2.2.2.2.2.2.2 gm_mL_witness.2.2.2.2.2.1 = [] by decide +kernel] at this; cases this), List.forall_mem_cons.mpr ⟨⟨"java/lang/IllegalStateException", rfl, by decide +kernel, gm_u287, by decide, List.mem_of_getElem? (l := lw_tbl) (i := 400) (by decide +kernel)⟩, List.forall_mem_cons.mpr ⟨⟨"java/lang/UnsupportedOperationException", rfl, by decide +kernel, gm_u663, by decide, List.mem_of_getElem? (l := lw_tbl) (i := 702) (by decide +kernel)⟩, List.forall_mem_cons.mpr ⟨⟨"java/util/NoSuchElementException", rfl, by decide +kernel, gm_u500, by decide, List.mem_of_getElem? (l := lw_tbl) (i := 507) (by decide +kernel)⟩, (fun _ h => nomatch h)⟩⟩⟩, fun _ => by decide +kernel⟩
theorem gm_dL_elements : ∀ q ∈ gm_cL_elements, decode cL_elements q.1 = .ok q.2 ∧ gm_lenok q.2.1 q.2.2 = true := by decide +kernel
theorem gm_eL_elements : gm_Cok gm_mL_elements := ⟨fun pc i len h => gm_dL_elements (pc, (i, len)) (gm_asc_mem h), gm_putb_of (by decide +kernel)⟩
theorem gm_gL_elements : gm_Tok gm_mL_elements := ⟨fun pc k len E a b => (by have := gm_sites_mem (ex := gm_mL_elements.2.2.2.2.2.2.2.2.2.2.2) (gm_asc_mem a) b; rw [show gm_sites gm_mL_elements.2.2.2.2.2.2.2.2.2.2.2 gm_mL_elements.2.2.2.2.2.1 = [] by decide +kernel] at this; cases this), List.forall_mem_cons.mpr ⟨⟨"java/lang/IllegalStateException", rfl, by decide +kernel, gm_u287, by decide, List.mem_of_getElem? (l := lw_tbl) (i := 400) (by decide +kernel)⟩, List.forall_mem_cons.mpr ⟨⟨"java/util/NoSuchElementException", rfl, by decide +kernel, gm_u500, by decide, List.mem_of_getElem? (l := lw_tbl) (i := 507) (by decide +kernel)⟩, (fun _ h => nomatch h)⟩⟩, fun _ => by decide +kernel⟩
theorem gm_dL_elementsByTrying : ∀ q ∈ gm_cL_elementsByTrying, decode cL_elementsByTrying q.1 = .ok q.2 ∧ gm_lenok q.2.1 q.2.2 = true := by decide +kernel
theorem gm_eL_elementsByTrying : gm_Cok gm_mL_elementsByTrying := ⟨fun pc i len h => gm_dL_elementsByTrying (pc, (i, len)) (gm_asc_mem h), gm_putb_of (by decide +kernel)⟩
theorem gm_gL_elementsByTrying : gm_Tok gm_mL_elementsByTrying := ⟨fun pc k len E a b => (by have := gm_sites_mem (ex := gm_mL_elementsByTrying.2.2.2.2.2.2.2.2.2.2.2) (gm_asc_mem a) b; rw [show gm_sites gm_mL_elementsByTrying.2.2.2.2.2.2.2.2.2.2.2 gm_mL_elementsByTrying.2.2.2.2.2.1 = [] by decide +kernel] at this; cases this), List.forall_mem_cons.mpr ⟨⟨"java/lang/IllegalStateException", rfl, by decide +kernel, gm_u287, by decide, List.mem_of_getElem? (l := lw_tbl) (i := 400) (by decide +kernel)⟩, List.forall_mem_cons.mpr ⟨⟨"java/util/NoSuchElementException", rfl, by decide +kernel, gm_u500, by decide, List.mem_of_getElem? (l := lw_tbl) (i := 507) (by decide +kernel)⟩, (fun _ h => nomatch h)⟩⟩, fun _ => by decide +kernel⟩
theorem gm_dL_region : ∀ q ∈ gm_cL_region, decode cL_region q.1 = .ok q.2 ∧ gm_lenok q.2.1 q.2.2 = true := by decide +kernel
theorem gm_eL_region : gm_Cok gm_mL_region := ⟨fun pc i len h => gm_dL_region (pc, (i, len)) (gm_asc_mem h), gm_putb_of (by decide +kernel)⟩
theorem gm_gL_region : gm_Tok gm_mL_region := ⟨fun pc k len E a b => (by have := gm_sites_mem (ex := gm_mL_region.2.2.2.2.2.2.2.2.2.2.2) (gm_asc_mem a) b; rw [show gm_sites gm_mL_region.2.2.2.2.2.2.2.2.2.2.2 gm_mL_region.2.2.2.2.2.1 = [] by decide +kernel] at this; cases this), List.forall_mem_cons.mpr ⟨⟨"java/lang/IllegalStateException", rfl, by decide +kernel, gm_u287, by decide, List.mem_of_getElem? (l := lw_tbl) (i := 400) (by decide +kernel)⟩, List.forall_mem_cons.mpr ⟨⟨"java/util/NoSuchElementException", rfl, by decide +kernel, gm_u500, by decide, List.mem_of_getElem? (l := lw_tbl) (i := 507) (by decide +kernel)⟩, (fun _ h => nomatch h)⟩⟩, fun _ => by decide +kernel⟩
theorem gm_dL_models : ∀ q ∈ gm_cL_models, decode cL_models q.1 = .ok q.2 ∧ gm_lenok q.2.1 q.2.2 = true := by decide +kernel
theorem gm_eL_models : gm_Cok gm_mL_models := ⟨fun pc i len h => gm_dL_models (pc, (i, len)) (gm_asc_mem h), gm_putb_of (by decide +kernel)⟩
theorem gm_gL_models : gm_Tok gm_mL_models := ⟨fun pc k len E a b => (by have := gm_sites_mem (ex := gm_mL_models.2.2.2.2.2.2.2.2.2.2.2) (gm_asc_mem a) b; rw [show gm_sites gm_mL_models.2.2.2.2.2.2.2.2.2.2.2 gm_mL_models.2.2.2.2.2.1 = [] by decide +kernel] at this; cases this), List.forall_mem_cons.mpr ⟨⟨"java/lang/IllegalArgumentException", rfl, by decide +kernel, gm_u286, by decide, List.mem_of_getElem? (l := lw_tbl) (i := 298) (by decide +kernel)⟩, (fun _ h => nomatch h)⟩, fun _ => by decide +kernel⟩
theorem gm_dL_modelsByTrying : ∀ q ∈ gm_cL_modelsByTrying, decode cL_modelsByTrying q.1 = .ok q.2 ∧ gm_lenok q.2.1 q.2.2 = true := by decide +kernel
theorem gm_eL_modelsByTrying : gm_Cok gm_mL_modelsByTrying := ⟨fun pc i len h => gm_dL_modelsByTrying (pc, (i, len)) (gm_asc_mem h), gm_putb_of (by decide +kernel)⟩
theorem gm_gL_modelsByTrying : gm_Tok gm_mL_modelsByTrying := ⟨fun pc k len E a b => (by have := gm_sites_mem (ex := gm_mL_modelsByTrying.2.2.2.2.2.2.2.2.2.2.2) (gm_asc_mem a) b; rw [show gm_sites gm_mL_modelsByTrying.2.2.2.2.2.2.2.2.2.2.2 gm_mL_modelsByTrying.2.2.2.2.2.1 = [] by decide +kernel] at this; cases this), List.forall_mem_cons.mpr ⟨⟨"java/lang/IllegalArgumentException", rfl, by decide +kernel, gm_u286, by decide, List.mem_of_getElem? (l := lw_tbl) (i := 298) (by decide +kernel)⟩, (fun _ h => nomatch h)⟩, fun _ => by decide +kernel⟩
theorem gm_dL_density : ∀ q ∈ gm_cL_density, decode cL_density q.1 = .ok q.2 ∧ gm_lenok q.2.1 q.2.2 = true := by decide +kernel
theorem gm_eL_density : gm_Cok gm_mL_density := ⟨fun pc i len h => gm_dL_density (pc, (i, len)) (gm_asc_mem h), gm_putb_of (by decide +kernel)⟩
theorem gm_gL_density : gm_Tok gm_mL_density := ⟨fun pc k len E a b => (by have := gm_sites_mem (ex := gm_mL_density.2.2.2.2.2.2.2.2.2.2.2) (gm_asc_mem a) b; rw [show gm_sites gm_mL_density.2.2.2.2.2.2.2.2.2.2.2 gm_mL_density.2.2.2.2.2.1 = [] by decide +kernel] at this; cases this), List.forall_mem_cons.mpr ⟨⟨"java/lang/IndexOutOfBoundsException", rfl, by decide +kernel, gm_u431, by decide, List.mem_of_getElem? (l := lw_tbl) (i := 443) (by decide +kernel)⟩, (fun _ h => nomatch h)⟩, fun _ => by decide +kernel⟩
def gm_one (M : pM) : Prop := gm_Mok M ∧ gm_Cok M ∧ gm_Kok gm_MT M.1 M.2.2.2.2.2.2.2 ∧ gm_Tok M
set_option maxRecDepth 20000 in
theorem gm_aX0 : ∀ M ∈ gm_tX0, gm_one M := List.forall_mem_cons.mpr ⟨⟨gm_oX0_init, gm_eX0_init, gm_fX0, gm_gX0_init⟩, List.forall_mem_cons.mpr ⟨⟨gm_oX0_tells, gm_eX0_tells, gm_fX0, gm_gX0_tells⟩, List.forall_mem_cons.mpr ⟨⟨gm_oX0_digitOf, gm_eX0_digitOf, gm_fX0, gm_gX0_digitOf⟩, List.forall_mem_cons.mpr ⟨⟨gm_oX0_weightOf, gm_eX0_weightOf, gm_fX0, gm_gX0_weightOf⟩, List.forall_mem_cons.mpr ⟨⟨gm_oX0_regionsIn, gm_eX0_regionsIn, gm_fX0, gm_gX0_regionsIn⟩, List.forall_mem_cons.mpr ⟨⟨gm_oX0_contains, gm_eX0_contains, gm_fX0, gm_gX0_contains⟩, List.forall_mem_cons.mpr ⟨⟨gm_oX0_join, gm_eX0_join, gm_fX0, gm_gX0_join⟩, List.forall_mem_cons.mpr ⟨⟨gm_oX0_isSingle, gm_eX0_isSingle, gm_fX0, gm_gX0_isSingle⟩, List.forall_mem_cons.mpr ⟨⟨gm_oX0_joinParts, gm_eX0_joinParts, gm_fX0, gm_gX0_joinParts⟩, List.forall_mem_cons.mpr ⟨⟨gm_oX0_countPrimes, gm_eX0_countPrimes, gm_fX0, gm_gX0_countPrimes⟩, List.forall_mem_cons.mpr ⟨⟨gm_oX0_primeAt, gm_eX0_primeAt, gm_fX0, gm_gX0_primeAt⟩, List.forall_mem_cons.mpr ⟨⟨gm_oX0_countByTrying, gm_eX0_countByTrying, gm_fX0, gm_gX0_countByTrying⟩, List.forall_mem_cons.mpr ⟨⟨gm_oX0_isInLarger, gm_eX0_isInLarger, gm_fX0, gm_gX0_isInLarger⟩, List.forall_mem_cons.mpr ⟨⟨gm_oX0_isInside, gm_eX0_isInside, gm_fX0, gm_gX0_isInside⟩, (fun _ h => nomatch h)⟩⟩⟩⟩⟩⟩⟩⟩⟩⟩⟩⟩⟩⟩
set_option maxRecDepth 20000 in
theorem gm_aX1 : ∀ M ∈ gm_tX1, gm_one M := List.forall_mem_cons.mpr ⟨⟨gm_oX1_init, gm_eX1_init, gm_fX1, gm_gX1_init⟩, List.forall_mem_cons.mpr ⟨⟨gm_oX1_load, gm_eX1_load, gm_fX1, gm_gX1_load⟩, List.forall_mem_cons.mpr ⟨⟨gm_oX1_text, gm_eX1_text, gm_fX1, gm_gX1_text⟩, List.forall_mem_cons.mpr ⟨⟨gm_oX1_init, gm_eX1_init, gm_fX1, gm_gX1_init⟩, List.forall_mem_cons.mpr ⟨⟨gm_oX1_nextRule, gm_eX1_nextRule, gm_fX1, gm_gX1_nextRule⟩, List.forall_mem_cons.mpr ⟨⟨gm_oX1_seek, gm_eX1_seek, gm_fX1, gm_gX1_seek⟩, List.forall_mem_cons.mpr ⟨⟨gm_oX1_ruleAt, gm_eX1_ruleAt, gm_fX1, gm_gX1_ruleAt⟩, List.forall_mem_cons.mpr ⟨⟨gm_oX1_ruleOfComplement, gm_eX1_ruleOfComplement, gm_fX1, gm_gX1_ruleOfComplement⟩, List.forall_mem_cons.mpr ⟨⟨gm_oX1_ruleOfPair, gm_eX1_ruleOfPair, gm_fX1, gm_gX1_ruleOfPair⟩, List.forall_mem_cons.mpr ⟨⟨gm_oX1_rewrite, gm_eX1_rewrite, gm_fX1, gm_gX1_rewrite⟩, List.forall_mem_cons.mpr ⟨⟨gm_oX1_putRewritten, gm_eX1_putRewritten, gm_fX1, gm_gX1_putRewritten⟩, List.forall_mem_cons.mpr ⟨⟨gm_oX1_putComplements, gm_eX1_putComplements, gm_fX1, gm_gX1_putComplements⟩, List.forall_mem_cons.mpr ⟨⟨gm_oX1_putDifferences, gm_eX1_putDifferences, gm_fX1, gm_gX1_putDifferences⟩, List.forall_mem_cons.mpr ⟨⟨gm_oX1_putOtherSide, gm_eX1_putOtherSide, gm_fX1, gm_gX1_putOtherSide⟩, List.forall_mem_cons.mpr ⟨⟨gm_oX1_constantOf, gm_eX1_constantOf, gm_fX1, gm_gX1_constantOf⟩, (fun _ h => nomatch h)⟩⟩⟩⟩⟩⟩⟩⟩⟩⟩⟩⟩⟩⟩⟩
set_option maxRecDepth 20000 in
theorem gm_aX2 : ∀ M ∈ gm_tX2, gm_one M := List.forall_mem_cons.mpr ⟨⟨gm_oX2_init, gm_eX2_init, gm_fX2, gm_gX2_init⟩, List.forall_mem_cons.mpr ⟨⟨gm_oX2_prepare, gm_eX2_prepare, gm_fX2, gm_gX2_prepare⟩, List.forall_mem_cons.mpr ⟨⟨gm_oX2_want, gm_eX2_want, gm_fX2, gm_gX2_want⟩, List.forall_mem_cons.mpr ⟨⟨gm_oX2_fewestBySets, gm_eX2_fewestBySets, gm_fX2, gm_gX2_fewestBySets⟩, List.forall_mem_cons.mpr ⟨⟨gm_oX2_fewestFrom, gm_eX2_fewestFrom, gm_fX2, gm_gX2_fewestFrom⟩, List.forall_mem_cons.mpr ⟨⟨gm_oX2_regionOf, gm_eX2_regionOf, gm_fX2, gm_gX2_regionOf⟩, List.forall_mem_cons.mpr ⟨⟨gm_oX2_fewestByTrying, gm_eX2_fewestByTrying, gm_fX2, gm_gX2_fewestByTrying⟩, List.forall_mem_cons.mpr ⟨⟨gm_oX2_canMeet, gm_eX2_canMeet, gm_fX2, gm_gX2_canMeet⟩, (fun _ h => nomatch h)⟩⟩⟩⟩⟩⟩⟩⟩
set_option maxRecDepth 20000 in
theorem gm_aX3 : ∀ M ∈ gm_tX3, gm_one M := List.forall_mem_cons.mpr ⟨⟨gm_oX3_init, gm_eX3_init, gm_fX3, gm_gX3_init⟩, List.forall_mem_cons.mpr ⟨⟨gm_oX3_howMany, gm_eX3_howMany, gm_fX3, gm_gX3_howMany⟩, List.forall_mem_cons.mpr ⟨⟨gm_oX3_add, gm_eX3_add, gm_fX3, gm_gX3_add⟩, List.forall_mem_cons.mpr ⟨⟨gm_oX3_removeLast, gm_eX3_removeLast, gm_fX3, gm_gX3_removeLast⟩, List.forall_mem_cons.mpr ⟨⟨gm_oX3_demandsElement, gm_eX3_demandsElement, gm_fX3, gm_gX3_demandsElement⟩, List.forall_mem_cons.mpr ⟨⟨gm_oX3_placesAt, gm_eX3_placesAt, gm_fX3, gm_gX3_placesAt⟩, List.forall_mem_cons.mpr ⟨⟨gm_oX3_hasGoal, gm_eX3_hasGoal, gm_fX3, gm_gX3_hasGoal⟩, List.forall_mem_cons.mpr ⟨⟨gm_oX3_goalDemands, gm_eX3_goalDemands, gm_fX3, gm_gX3_goalDemands⟩, List.forall_mem_cons.mpr ⟨⟨gm_oX3_goalRegions, gm_eX3_goalRegions, gm_fX3, gm_gX3_goalRegions⟩, List.forall_mem_cons.mpr ⟨⟨gm_oX3_aimAt, gm_eX3_aimAt, gm_fX3, gm_gX3_aimAt⟩, List.forall_mem_cons.mpr ⟨⟨gm_oX3_allowed, gm_eX3_allowed, gm_fX3, gm_gX3_allowed⟩, List.forall_mem_cons.mpr ⟨⟨gm_oX3_firstDenial, gm_eX3_firstDenial, gm_fX3, gm_gX3_firstDenial⟩, List.forall_mem_cons.mpr ⟨⟨gm_oX3_firstUnmet, gm_eX3_firstUnmet, gm_fX3, gm_gX3_firstUnmet⟩, List.forall_mem_cons.mpr ⟨⟨gm_oX3_haveModel, gm_eX3_haveModel, gm_fX3, gm_gX3_haveModel⟩, List.forall_mem_cons.mpr ⟨⟨gm_oX3_firstWitness, gm_eX3_firstWitness, gm_fX3, gm_gX3_firstWitness⟩, List.forall_mem_cons.mpr ⟨⟨gm_oX3_proveGoal, gm_eX3_proveGoal, gm_fX3, gm_gX3_proveGoal⟩, List.forall_mem_cons.mpr ⟨⟨gm_oX3_allHold, gm_eX3_allHold, gm_fX3, gm_gX3_allHold⟩, List.forall_mem_cons.mpr ⟨⟨gm_oX3_countModels, gm_eX3_countModels, gm_fX3, gm_gX3_countModels⟩, List.forall_mem_cons.mpr ⟨⟨gm_oX3_isSetOfDemands, gm_eX3_isSetOfDemands, gm_fX3, gm_gX3_isSetOfDemands⟩, List.forall_mem_cons.mpr ⟨⟨gm_oX3_placesOfSet, gm_eX3_placesOfSet, gm_fX3, gm_gX3_placesOfSet⟩, List.forall_mem_cons.mpr ⟨⟨gm_oX3_power, gm_eX3_power, gm_fX3, gm_gX3_power⟩, List.forall_mem_cons.mpr ⟨⟨gm_oX3_countModelsByTrying, gm_eX3_countModelsByTrying, gm_fX3, gm_gX3_countModelsByTrying⟩, List.forall_mem_cons.mpr ⟨⟨gm_oX3_occupiedBy, gm_eX3_occupiedBy, gm_fX3, gm_gX3_occupiedBy⟩, (fun _ h => nomatch h)⟩⟩⟩⟩⟩⟩⟩⟩⟩⟩⟩⟩⟩⟩⟩⟩⟩⟩⟩⟩⟩⟩⟩
set_option maxRecDepth 20000 in
theorem gm_aX4 : ∀ M ∈ gm_tX4, gm_one M := List.forall_mem_cons.mpr ⟨⟨gm_oX4_init, gm_eX4_init, gm_fX4, gm_gX4_init⟩, List.forall_mem_cons.mpr ⟨⟨gm_oX4_howMany, gm_eX4_howMany, gm_fX4, gm_gX4_howMany⟩, List.forall_mem_cons.mpr ⟨⟨gm_oX4_isKnown, gm_eX4_isKnown, gm_fX4, gm_gX4_isKnown⟩, List.forall_mem_cons.mpr ⟨⟨gm_oX4_sizeOf, gm_eX4_sizeOf, gm_fX4, gm_gX4_sizeOf⟩, List.forall_mem_cons.mpr ⟨⟨gm_oX4_coverOf, gm_eX4_coverOf, gm_fX4, gm_gX4_coverOf⟩, List.forall_mem_cons.mpr ⟨⟨gm_oX4_headOf, gm_eX4_headOf, gm_fX4, gm_gX4_headOf⟩, List.forall_mem_cons.mpr ⟨⟨gm_oX4_leftOf, gm_eX4_leftOf, gm_fX4, gm_gX4_leftOf⟩, List.forall_mem_cons.mpr ⟨⟨gm_oX4_rightOf, gm_eX4_rightOf, gm_fX4, gm_gX4_rightOf⟩, List.forall_mem_cons.mpr ⟨⟨gm_oX4_symbolOf, gm_eX4_symbolOf, gm_fX4, gm_gX4_symbolOf⟩, List.forall_mem_cons.mpr ⟨⟨gm_oX4_make, gm_eX4_make, gm_fX4, gm_gX4_make⟩, List.forall_mem_cons.mpr ⟨⟨gm_oX4_find, gm_eX4_find, gm_fX4, gm_gX4_find⟩, List.forall_mem_cons.mpr ⟨⟨gm_oX4_coverFrom, gm_eX4_coverFrom, gm_fX4, gm_gX4_coverFrom⟩, List.forall_mem_cons.mpr ⟨⟨gm_oX4_makeAll, gm_eX4_makeAll, gm_fX4, gm_gX4_makeAll⟩, List.forall_mem_cons.mpr ⟨⟨gm_oX4_makeNext, gm_eX4_makeNext, gm_fX4, gm_gX4_makeNext⟩, List.forall_mem_cons.mpr ⟨⟨gm_oX4_reaches, gm_eX4_reaches, gm_fX4, gm_gX4_reaches⟩, List.forall_mem_cons.mpr ⟨⟨gm_oX4_reachesBelow, gm_eX4_reachesBelow, gm_fX4, gm_gX4_reachesBelow⟩, (fun _ h => nomatch h)⟩⟩⟩⟩⟩⟩⟩⟩⟩⟩⟩⟩⟩⟩⟩⟩
set_option maxRecDepth 20000 in
theorem gm_aX5 : ∀ M ∈ gm_tX5, gm_one M := List.forall_mem_cons.mpr ⟨⟨gm_oX5_init, gm_eX5_init, gm_fX5, gm_gX5_init⟩, List.forall_mem_cons.mpr ⟨⟨gm_oX5_partsOf, gm_eX5_partsOf, gm_fX5, gm_gX5_partsOf⟩, List.forall_mem_cons.mpr ⟨⟨gm_oX5_length, gm_eX5_length, gm_fX5, gm_gX5_length⟩, List.forall_mem_cons.mpr ⟨⟨gm_oX5_clear, gm_eX5_clear, gm_fX5, gm_gX5_clear⟩, List.forall_mem_cons.mpr ⟨⟨gm_oX5_rewind, gm_eX5_rewind, gm_fX5, gm_gX5_rewind⟩, List.forall_mem_cons.mpr ⟨⟨gm_oX5_read, gm_eX5_read, gm_fX5, gm_gX5_read⟩, List.forall_mem_cons.mpr ⟨⟨gm_oX5_at, gm_eX5_at, gm_fX5, gm_gX5_at⟩, List.forall_mem_cons.mpr ⟨⟨gm_oX5_put, gm_eX5_put, gm_fX5, gm_gX5_put⟩, List.forall_mem_cons.mpr ⟨⟨gm_oX5_putPart, gm_eX5_putPart, gm_fX5, gm_gX5_putPart⟩, List.forall_mem_cons.mpr ⟨⟨gm_oX5_measure, gm_eX5_measure, gm_fX5, gm_gX5_measure⟩, List.forall_mem_cons.mpr ⟨⟨gm_oX5_endOf, gm_eX5_endOf, gm_fX5, gm_gX5_endOf⟩, List.forall_mem_cons.mpr ⟨⟨gm_oX5_isSame, gm_eX5_isSame, gm_fX5, gm_gX5_isSame⟩, (fun _ h => nomatch h)⟩⟩⟩⟩⟩⟩⟩⟩⟩⟩⟩⟩
set_option maxRecDepth 20000 in
theorem gm_aX6 : ∀ M ∈ gm_tX6, gm_one M := List.forall_mem_cons.mpr ⟨⟨gm_oX6_init, gm_eX6_init, gm_fX6, gm_gX6_init⟩, List.forall_mem_cons.mpr ⟨⟨gm_oX6_letter, gm_eX6_letter, gm_fX6, gm_gX6_letter⟩, List.forall_mem_cons.mpr ⟨⟨gm_oX6_empty, gm_eX6_empty, gm_fX6, gm_gX6_empty⟩, List.forall_mem_cons.mpr ⟨⟨gm_oX6_universe, gm_eX6_universe, gm_fX6, gm_gX6_universe⟩, List.forall_mem_cons.mpr ⟨⟨gm_oX6_complement, gm_eX6_complement, gm_fX6, gm_gX6_complement⟩, List.forall_mem_cons.mpr ⟨⟨gm_oX6_union, gm_eX6_union, gm_fX6, gm_gX6_union⟩, List.forall_mem_cons.mpr ⟨⟨gm_oX6_intersection, gm_eX6_intersection, gm_fX6, gm_gX6_intersection⟩, List.forall_mem_cons.mpr ⟨⟨gm_oX6_difference, gm_eX6_difference, gm_fX6, gm_gX6_difference⟩, List.forall_mem_cons.mpr ⟨⟨gm_oX6_symmetric, gm_eX6_symmetric, gm_fX6, gm_gX6_symmetric⟩, List.forall_mem_cons.mpr ⟨⟨gm_oX6_terms, gm_eX6_terms, gm_fX6, gm_gX6_terms⟩, List.forall_mem_cons.mpr ⟨⟨gm_oX6_size, gm_eX6_size, gm_fX6, gm_gX6_size⟩, List.forall_mem_cons.mpr ⟨⟨gm_oX6_symbol, gm_eX6_symbol, gm_fX6, gm_gX6_symbol⟩, List.forall_mem_cons.mpr ⟨⟨gm_oX6_makePair, gm_eX6_makePair, gm_fX6, gm_gX6_makePair⟩, List.forall_mem_cons.mpr ⟨⟨gm_oX6_madeOrThrow, gm_eX6_madeOrThrow, gm_fX6, gm_gX6_madeOrThrow⟩, List.forall_mem_cons.mpr ⟨⟨gm_oX6_checkTerm, gm_eX6_checkTerm, gm_fX6, gm_gX6_checkTerm⟩, List.forall_mem_cons.mpr ⟨⟨gm_oX6_checkLetter, gm_eX6_checkLetter, gm_fX6, gm_gX6_checkLetter⟩, List.forall_mem_cons.mpr ⟨⟨gm_oX6_checkRegion, gm_eX6_checkRegion, gm_fX6, gm_gX6_checkRegion⟩, List.forall_mem_cons.mpr ⟨⟨gm_oX6_regions, gm_eX6_regions, gm_fX6, gm_gX6_regions⟩, List.forall_mem_cons.mpr ⟨⟨gm_oX6_covers, gm_eX6_covers, gm_fX6, gm_gX6_covers⟩, List.forall_mem_cons.mpr ⟨⟨gm_oX6_coversByTerm, gm_eX6_coversByTerm, gm_fX6, gm_gX6_coversByTerm⟩, List.forall_mem_cons.mpr ⟨⟨gm_oX6_isEqual, gm_eX6_isEqual, gm_fX6, gm_gX6_isEqual⟩, List.forall_mem_cons.mpr ⟨⟨gm_oX6_isIn, gm_eX6_isIn, gm_fX6, gm_gX6_isIn⟩, List.forall_mem_cons.mpr ⟨⟨gm_oX6_rule, gm_eX6_rule, gm_fX6, gm_gX6_rule⟩, List.forall_mem_cons.mpr ⟨⟨gm_oX6_step, gm_eX6_step, gm_fX6, gm_gX6_step⟩, List.forall_mem_cons.mpr ⟨⟨gm_oX6_steps, gm_eX6_steps, gm_fX6, gm_gX6_steps⟩, List.forall_mem_cons.mpr ⟨⟨gm_oX6_normalForm, gm_eX6_normalForm, gm_fX6, gm_gX6_normalForm⟩, List.forall_mem_cons.mpr ⟨⟨gm_oX6_primes, gm_eX6_primes, gm_fX6, gm_gX6_primes⟩, List.forall_mem_cons.mpr ⟨⟨gm_oX6_primesByTrying, gm_eX6_primesByTrying, gm_fX6, gm_gX6_primesByTrying⟩, List.forall_mem_cons.mpr ⟨⟨gm_oX6_prime, gm_eX6_prime, gm_fX6, gm_gX6_prime⟩, List.forall_mem_cons.mpr ⟨⟨gm_oX6_ruleOrThrow, gm_eX6_ruleOrThrow, gm_fX6, gm_gX6_ruleOrThrow⟩, List.forall_mem_cons.mpr ⟨⟨gm_oX6_rewriteOrThrow, gm_eX6_rewriteOrThrow, gm_fX6, gm_gX6_rewriteOrThrow⟩, List.forall_mem_cons.mpr ⟨⟨gm_oX6_assume, gm_eX6_assume, gm_fX6, gm_gX6_assume⟩, List.forall_mem_cons.mpr ⟨⟨gm_oX6_drop, gm_eX6_drop, gm_fX6, gm_gX6_drop⟩, List.forall_mem_cons.mpr ⟨⟨gm_oX6_assumptions, gm_eX6_assumptions, gm_fX6, gm_gX6_assumptions⟩, List.forall_mem_cons.mpr ⟨⟨gm_oX6_setGoal, gm_eX6_setGoal, gm_fX6, gm_gX6_setGoal⟩, List.forall_mem_cons.mpr ⟨⟨gm_oX6_isConsistent, gm_eX6_isConsistent, gm_fX6, gm_gX6_isConsistent⟩, List.forall_mem_cons.mpr ⟨⟨gm_oX6_deniedBy, gm_eX6_deniedBy, gm_fX6, gm_gX6_deniedBy⟩, List.forall_mem_cons.mpr ⟨⟨gm_oX6_follows, gm_eX6_follows, gm_fX6, gm_gX6_follows⟩, List.forall_mem_cons.mpr ⟨⟨gm_oX6_why, gm_eX6_why, gm_fX6, gm_gX6_why⟩, List.forall_mem_cons.mpr ⟨⟨gm_oX6_witness, gm_eX6_witness, gm_fX6, gm_gX6_witness⟩, List.forall_mem_cons.mpr ⟨⟨gm_oX6_checkStatement, gm_eX6_checkStatement, gm_fX6, gm_gX6_checkStatement⟩, List.forall_mem_cons.mpr ⟨⟨gm_oX6_checkGoal, gm_eX6_checkGoal, gm_fX6, gm_gX6_checkGoal⟩, List.forall_mem_cons.mpr ⟨⟨gm_oX6_isDenial, gm_eX6_isDenial, gm_fX6, gm_gX6_isDenial⟩, List.forall_mem_cons.mpr ⟨⟨gm_oX6_isDemand, gm_eX6_isDemand, gm_fX6, gm_gX6_isDemand⟩, List.forall_mem_cons.mpr ⟨⟨gm_oX6_placesOf, gm_eX6_placesOf, gm_fX6, gm_gX6_placesOf⟩, List.forall_mem_cons.mpr ⟨⟨gm_oX6_elements, gm_eX6_elements, gm_fX6, gm_gX6_elements⟩, List.forall_mem_cons.mpr ⟨⟨gm_oX6_elementsByTrying, gm_eX6_elementsByTrying, gm_fX6, gm_gX6_elementsByTrying⟩, List.forall_mem_cons.mpr ⟨⟨gm_oX6_region, gm_eX6_region, gm_fX6, gm_gX6_region⟩, List.forall_mem_cons.mpr ⟨⟨gm_oX6_models, gm_eX6_models, gm_fX6, gm_gX6_models⟩, List.forall_mem_cons.mpr ⟨⟨gm_oX6_modelsByTrying, gm_eX6_modelsByTrying, gm_fX6, gm_gX6_modelsByTrying⟩, List.forall_mem_cons.mpr ⟨⟨gm_oX6_density, gm_eX6_density, gm_fX6, gm_gX6_density⟩, List.forall_mem_cons.mpr ⟨⟨gm_oX6_leastOrThrow, gm_eX6_leastOrThrow, gm_fX6, gm_gX6_leastOrThrow⟩, List.forall_mem_cons.mpr ⟨⟨gm_oX6_checkElements, gm_eX6_checkElements, gm_fX6, gm_gX6_checkElements⟩, (fun _ h => nomatch h)⟩⟩⟩⟩⟩⟩⟩⟩⟩⟩⟩⟩⟩⟩⟩⟩⟩⟩⟩⟩⟩⟩⟩⟩⟩⟩⟩⟩⟩⟩⟩⟩⟩⟩⟩⟩⟩⟩⟩⟩⟩⟩⟩⟩⟩⟩⟩⟩⟩⟩⟩⟩⟩
set_option maxRecDepth 20000 in
theorem gm_aX7 : ∀ M ∈ gm_tX7, gm_one M := List.forall_mem_cons.mpr ⟨⟨gm_oX7_init, gm_eX7_init, gm_fX7, gm_gX7_init⟩, List.forall_mem_cons.mpr ⟨⟨gm_oX7_thrown, gm_eX7_thrown, gm_fX7, gm_gX7_thrown⟩, List.forall_mem_cons.mpr ⟨⟨gm_oX7_fail, gm_eX7_fail, gm_fX7, gm_gX7_fail⟩, List.forall_mem_cons.mpr ⟨⟨gm_oX7_isIn, gm_eX7_isIn, gm_fX7, gm_gX7_isIn⟩, List.forall_mem_cons.mpr ⟨⟨gm_oX7_noTerm, gm_eX7_noTerm, gm_fX7, gm_gX7_noTerm⟩, List.forall_mem_cons.mpr ⟨⟨gm_oX7_isPair, gm_eX7_isPair, gm_fX7, gm_gX7_isPair⟩, List.forall_mem_cons.mpr ⟨⟨gm_oX7_letterCover, gm_eX7_letterCover, gm_fX7, gm_gX7_letterCover⟩, List.forall_mem_cons.mpr ⟨⟨gm_oX7_covered, gm_eX7_covered, gm_fX7, gm_gX7_covered⟩, List.forall_mem_cons.mpr ⟨⟨gm_oX7_know, gm_eX7_know, gm_fX7, gm_gX7_know⟩, List.forall_mem_cons.mpr ⟨⟨gm_oX7_makes, gm_eX7_makes, gm_fX7, gm_gX7_makes⟩, List.forall_mem_cons.mpr ⟨⟨gm_oX7_letter, gm_eX7_letter, gm_fX7, gm_gX7_letter⟩, List.forall_mem_cons.mpr ⟨⟨gm_oX7_empty, gm_eX7_empty, gm_fX7, gm_gX7_empty⟩, List.forall_mem_cons.mpr ⟨⟨gm_oX7_universe, gm_eX7_universe, gm_fX7, gm_gX7_universe⟩, List.forall_mem_cons.mpr ⟨⟨gm_oX7_complement, gm_eX7_complement, gm_fX7, gm_gX7_complement⟩, List.forall_mem_cons.mpr ⟨⟨gm_oX7_pair, gm_eX7_pair, gm_fX7, gm_gX7_pair⟩, List.forall_mem_cons.mpr ⟨⟨gm_oX7_union, gm_eX7_union, gm_fX7, gm_gX7_union⟩, List.forall_mem_cons.mpr ⟨⟨gm_oX7_intersection, gm_eX7_intersection, gm_fX7, gm_gX7_intersection⟩, List.forall_mem_cons.mpr ⟨⟨gm_oX7_difference, gm_eX7_difference, gm_fX7, gm_gX7_difference⟩, List.forall_mem_cons.mpr ⟨⟨gm_oX7_symmetric, gm_eX7_symmetric, gm_fX7, gm_gX7_symmetric⟩, List.forall_mem_cons.mpr ⟨⟨gm_oX7_terms, gm_eX7_terms, gm_fX7, gm_gX7_terms⟩, List.forall_mem_cons.mpr ⟨⟨gm_oX7_size, gm_eX7_size, gm_fX7, gm_gX7_size⟩, List.forall_mem_cons.mpr ⟨⟨gm_oX7_write, gm_eX7_write, gm_fX7, gm_gX7_write⟩, List.forall_mem_cons.mpr ⟨⟨gm_oX7_spell, gm_eX7_spell, gm_fX7, gm_gX7_spell⟩, List.forall_mem_cons.mpr ⟨⟨gm_oX7_symbol, gm_eX7_symbol, gm_fX7, gm_gX7_symbol⟩, List.forall_mem_cons.mpr ⟨⟨gm_oX7_regions, gm_eX7_regions, gm_fX7, gm_gX7_regions⟩, List.forall_mem_cons.mpr ⟨⟨gm_oX7_covers, gm_eX7_covers, gm_fX7, gm_gX7_covers⟩, List.forall_mem_cons.mpr ⟨⟨gm_oX7_coversByTerm, gm_eX7_coversByTerm, gm_fX7, gm_gX7_coversByTerm⟩, List.forall_mem_cons.mpr ⟨⟨gm_oX7_isEqual, gm_eX7_isEqual, gm_fX7, gm_gX7_isEqual⟩, List.forall_mem_cons.mpr ⟨⟨gm_oX7_behind, gm_eX7_behind, gm_fX7, gm_gX7_behind⟩, List.forall_mem_cons.mpr ⟨⟨gm_oX7_isSame, gm_eX7_isSame, gm_fX7, gm_gX7_isSame⟩, List.forall_mem_cons.mpr ⟨⟨gm_oX7_ruleAt, gm_eX7_ruleAt, gm_fX7, gm_gX7_ruleAt⟩, List.forall_mem_cons.mpr ⟨⟨gm_oX7_place, gm_eX7_place, gm_fX7, gm_gX7_place⟩, List.forall_mem_cons.mpr ⟨⟨gm_oX7_puts, gm_eX7_puts, gm_fX7, gm_gX7_puts⟩, List.forall_mem_cons.mpr ⟨⟨gm_oX7_copies, gm_eX7_copies, gm_fX7, gm_gX7_copies⟩, List.forall_mem_cons.mpr ⟨⟨gm_oX7_rewrite, gm_eX7_rewrite, gm_fX7, gm_gX7_rewrite⟩, List.forall_mem_cons.mpr ⟨⟨gm_oX7_parse, gm_eX7_parse, gm_fX7, gm_gX7_parse⟩, List.forall_mem_cons.mpr ⟨⟨gm_oX7_learns, gm_eX7_learns, gm_fX7, gm_gX7_learns⟩, List.forall_mem_cons.mpr ⟨⟨gm_oX7_rule, gm_eX7_rule, gm_fX7, gm_gX7_rule⟩, List.forall_mem_cons.mpr ⟨⟨gm_oX7_step, gm_eX7_step, gm_fX7, gm_gX7_step⟩, List.forall_mem_cons.mpr ⟨⟨gm_oX7_steps, gm_eX7_steps, gm_fX7, gm_gX7_steps⟩, List.forall_mem_cons.mpr ⟨⟨gm_oX7_normalForm, gm_eX7_normalForm, gm_fX7, gm_gX7_normalForm⟩, List.forall_mem_cons.mpr ⟨⟨gm_oX7_cube, gm_eX7_cube, gm_fX7, gm_gX7_cube⟩, List.forall_mem_cons.mpr ⟨⟨gm_oX7_isImplicant, gm_eX7_isImplicant, gm_fX7, gm_gX7_isImplicant⟩, List.forall_mem_cons.mpr ⟨⟨gm_oX7_isPrime, gm_eX7_isPrime, gm_fX7, gm_gX7_isPrime⟩, List.forall_mem_cons.mpr ⟨⟨gm_oX7_primes, gm_eX7_primes, gm_fX7, gm_gX7_primes⟩, List.forall_mem_cons.mpr ⟨⟨gm_oX7_primesByTrying, gm_eX7_primesByTrying, gm_fX7, gm_gX7_primesByTrying⟩, List.forall_mem_cons.mpr ⟨⟨gm_oX7_prime, gm_eX7_prime, gm_fX7, gm_gX7_prime⟩, List.forall_mem_cons.mpr ⟨⟨gm_oX7_isKind, gm_eX7_isKind, gm_fX7, gm_gX7_isKind⟩, List.forall_mem_cons.mpr ⟨⟨gm_oX7_isDemand, gm_eX7_isDemand, gm_fX7, gm_gX7_isDemand⟩, List.forall_mem_cons.mpr ⟨⟨gm_oX7_regionsOf, gm_eX7_regionsOf, gm_fX7, gm_gX7_regionsOf⟩, List.forall_mem_cons.mpr ⟨⟨gm_oX7_assumed, gm_eX7_assumed, gm_fX7, gm_gX7_assumed⟩, List.forall_mem_cons.mpr ⟨⟨gm_oX7_goal, gm_eX7_goal, gm_fX7, gm_gX7_goal⟩, List.forall_mem_cons.mpr ⟨⟨gm_oX7_areTerms, gm_eX7_areTerms, gm_fX7, gm_gX7_areTerms⟩, List.forall_mem_cons.mpr ⟨⟨gm_oX7_assume, gm_eX7_assume, gm_fX7, gm_gX7_assume⟩, List.forall_mem_cons.mpr ⟨⟨gm_oX7_drop, gm_eX7_drop, gm_fX7, gm_gX7_drop⟩, List.forall_mem_cons.mpr ⟨⟨gm_oX7_assumptions, gm_eX7_assumptions, gm_fX7, gm_gX7_assumptions⟩, List.forall_mem_cons.mpr ⟨⟨gm_oX7_setGoal, gm_eX7_setGoal, gm_fX7, gm_gX7_setGoal⟩, List.forall_mem_cons.mpr ⟨⟨gm_oX7_allowed, gm_eX7_allowed, gm_fX7, gm_gX7_allowed⟩, List.forall_mem_cons.mpr ⟨⟨gm_oX7_hasModel, gm_eX7_hasModel, gm_fX7, gm_gX7_hasModel⟩, List.forall_mem_cons.mpr ⟨⟨gm_oX7_isConsistent, gm_eX7_isConsistent, gm_fX7, gm_gX7_isConsistent⟩, List.forall_mem_cons.mpr ⟨⟨gm_oX7_deniedBy, gm_eX7_deniedBy, gm_fX7, gm_gX7_deniedBy⟩, List.forall_mem_cons.mpr ⟨⟨gm_oX7_counter, gm_eX7_counter, gm_fX7, gm_gX7_counter⟩, List.forall_mem_cons.mpr ⟨⟨gm_oX7_isFollowing, gm_eX7_isFollowing, gm_fX7, gm_gX7_isFollowing⟩, List.forall_mem_cons.mpr ⟨⟨gm_oX7_noGoal, gm_eX7_noGoal, gm_fX7, gm_gX7_noGoal⟩, List.forall_mem_cons.mpr ⟨⟨gm_oX7_follows, gm_eX7_follows, gm_fX7, gm_gX7_follows⟩, List.forall_mem_cons.mpr ⟨⟨gm_oX7_why, gm_eX7_why, gm_fX7, gm_gX7_why⟩, List.forall_mem_cons.mpr ⟨⟨gm_oX7_witness, gm_eX7_witness, gm_fX7, gm_gX7_witness⟩, List.forall_mem_cons.mpr ⟨⟨gm_oX7_choose, gm_eX7_choose, gm_fX7, gm_gX7_choose⟩, List.forall_mem_cons.mpr ⟨⟨gm_oX7_least, gm_eX7_least, gm_fX7, gm_gX7_least⟩, List.forall_mem_cons.mpr ⟨⟨gm_oX7_noCounterexample, gm_eX7_noCounterexample, gm_fX7, gm_gX7_noCounterexample⟩, List.forall_mem_cons.mpr ⟨⟨gm_oX7_elements, gm_eX7_elements, gm_fX7, gm_gX7_elements⟩, List.forall_mem_cons.mpr ⟨⟨gm_oX7_elementsByTrying, gm_eX7_elementsByTrying, gm_fX7, gm_gX7_elementsByTrying⟩, List.forall_mem_cons.mpr ⟨⟨gm_oX7_region, gm_eX7_region, gm_fX7, gm_gX7_region⟩, List.forall_mem_cons.mpr ⟨⟨gm_oX7_power, gm_eX7_power, gm_fX7, gm_gX7_power⟩, List.forall_mem_cons.mpr ⟨⟨gm_oX7_ways, gm_eX7_ways, gm_fX7, gm_gX7_ways⟩, List.forall_mem_cons.mpr ⟨⟨gm_oX7_models, gm_eX7_models, gm_fX7, gm_gX7_models⟩, List.forall_mem_cons.mpr ⟨⟨gm_oX7_modelsByTrying, gm_eX7_modelsByTrying, gm_fX7, gm_gX7_modelsByTrying⟩, List.forall_mem_cons.mpr ⟨⟨gm_oX7_density, gm_eX7_density, gm_fX7, gm_gX7_density⟩, (fun _ h => nomatch h)⟩⟩⟩⟩⟩⟩⟩⟩⟩⟩⟩⟩⟩⟩⟩⟩⟩⟩⟩⟩⟩⟩⟩⟩⟩⟩⟩⟩⟩⟩⟩⟩⟩⟩⟩⟩⟩⟩⟩⟩⟩⟩⟩⟩⟩⟩⟩⟩⟩⟩⟩⟩⟩⟩⟩⟩⟩⟩⟩⟩⟩⟩⟩⟩⟩⟩⟩⟩⟩⟩⟩⟩⟩⟩⟩⟩⟩⟩
set_option maxRecDepth 20000 in
theorem gm_aJ : ∀ M ∈ gm_tJ, gm_one M := List.forall_mem_cons.mpr ⟨⟨gm_oJ6_bitCount_0f7a4, gm_eJ6_bitCount_0f7a4, gm_fJ6, gm_gJ6_bitCount_0f7a4⟩, List.forall_mem_cons.mpr ⟨⟨gm_oJ9_min_7cf53, gm_eJ9_min_7cf53, gm_fJ9, gm_gJ9_min_7cf53⟩, (fun _ h => nomatch h)⟩⟩
set_option maxRecDepth 20000 in
theorem gm_aL : ∀ M ∈ gm_tL, gm_one M := List.forall_mem_cons.mpr ⟨⟨gm_oL_letter, gm_eL_letter, gm_fL, gm_gL_letter⟩, List.forall_mem_cons.mpr ⟨⟨gm_oL_empty, gm_eL_empty, gm_fL, gm_gL_empty⟩, List.forall_mem_cons.mpr ⟨⟨gm_oL_universe, gm_eL_universe, gm_fL, gm_gL_universe⟩, List.forall_mem_cons.mpr ⟨⟨gm_oL_complement, gm_eL_complement, gm_fL, gm_gL_complement⟩, List.forall_mem_cons.mpr ⟨⟨gm_oL_union, gm_eL_union, gm_fL, gm_gL_union⟩, List.forall_mem_cons.mpr ⟨⟨gm_oL_intersection, gm_eL_intersection, gm_fL, gm_gL_intersection⟩, List.forall_mem_cons.mpr ⟨⟨gm_oL_difference, gm_eL_difference, gm_fL, gm_gL_difference⟩, List.forall_mem_cons.mpr ⟨⟨gm_oL_symmetric, gm_eL_symmetric, gm_fL, gm_gL_symmetric⟩, List.forall_mem_cons.mpr ⟨⟨gm_oL_size, gm_eL_size, gm_fL, gm_gL_size⟩, List.forall_mem_cons.mpr ⟨⟨gm_oL_symbol, gm_eL_symbol, gm_fL, gm_gL_symbol⟩, List.forall_mem_cons.mpr ⟨⟨gm_oL_regions, gm_eL_regions, gm_fL, gm_gL_regions⟩, List.forall_mem_cons.mpr ⟨⟨gm_oL_covers, gm_eL_covers, gm_fL, gm_gL_covers⟩, List.forall_mem_cons.mpr ⟨⟨gm_oL_coversByTerm, gm_eL_coversByTerm, gm_fL, gm_gL_coversByTerm⟩, List.forall_mem_cons.mpr ⟨⟨gm_oL_isEqual, gm_eL_isEqual, gm_fL, gm_gL_isEqual⟩, List.forall_mem_cons.mpr ⟨⟨gm_oL_rule, gm_eL_rule, gm_fL, gm_gL_rule⟩, List.forall_mem_cons.mpr ⟨⟨gm_oL_step, gm_eL_step, gm_fL, gm_gL_step⟩, List.forall_mem_cons.mpr ⟨⟨gm_oL_steps, gm_eL_steps, gm_fL, gm_gL_steps⟩, List.forall_mem_cons.mpr ⟨⟨gm_oL_normalForm, gm_eL_normalForm, gm_fL, gm_gL_normalForm⟩, List.forall_mem_cons.mpr ⟨⟨gm_oL_primes, gm_eL_primes, gm_fL, gm_gL_primes⟩, List.forall_mem_cons.mpr ⟨⟨gm_oL_primesByTrying, gm_eL_primesByTrying, gm_fL, gm_gL_primesByTrying⟩, List.forall_mem_cons.mpr ⟨⟨gm_oL_prime, gm_eL_prime, gm_fL, gm_gL_prime⟩, List.forall_mem_cons.mpr ⟨⟨gm_oL_assume, gm_eL_assume, gm_fL, gm_gL_assume⟩, List.forall_mem_cons.mpr ⟨⟨gm_oL_drop, gm_eL_drop, gm_fL, gm_gL_drop⟩, List.forall_mem_cons.mpr ⟨⟨gm_oL_setGoal, gm_eL_setGoal, gm_fL, gm_gL_setGoal⟩, List.forall_mem_cons.mpr ⟨⟨gm_oL_deniedBy, gm_eL_deniedBy, gm_fL, gm_gL_deniedBy⟩, List.forall_mem_cons.mpr ⟨⟨gm_oL_follows, gm_eL_follows, gm_fL, gm_gL_follows⟩, List.forall_mem_cons.mpr ⟨⟨gm_oL_why, gm_eL_why, gm_fL, gm_gL_why⟩, List.forall_mem_cons.mpr ⟨⟨gm_oL_witness, gm_eL_witness, gm_fL, gm_gL_witness⟩, List.forall_mem_cons.mpr ⟨⟨gm_oL_elements, gm_eL_elements, gm_fL, gm_gL_elements⟩, List.forall_mem_cons.mpr ⟨⟨gm_oL_elementsByTrying, gm_eL_elementsByTrying, gm_fL, gm_gL_elementsByTrying⟩, List.forall_mem_cons.mpr ⟨⟨gm_oL_region, gm_eL_region, gm_fL, gm_gL_region⟩, List.forall_mem_cons.mpr ⟨⟨gm_oL_models, gm_eL_models, gm_fL, gm_gL_models⟩, List.forall_mem_cons.mpr ⟨⟨gm_oL_modelsByTrying, gm_eL_modelsByTrying, gm_fL, gm_gL_modelsByTrying⟩, List.forall_mem_cons.mpr ⟨⟨gm_oL_density, gm_eL_density, gm_fL, gm_gL_density⟩, (fun _ h => nomatch h)⟩⟩⟩⟩⟩⟩⟩⟩⟩⟩⟩⟩⟩⟩⟩⟩⟩⟩⟩⟩⟩⟩⟩⟩⟩⟩⟩⟩⟩⟩⟩⟩⟩⟩
theorem gm_atab : ∀ t ∈ gm_ts, ∀ M ∈ t, gm_one M := List.forall_mem_cons.mpr ⟨(fun _ h => nomatch h), List.forall_mem_cons.mpr ⟨gm_aX0, List.forall_mem_cons.mpr ⟨gm_aX1, List.forall_mem_cons.mpr ⟨gm_aX2, List.forall_mem_cons.mpr ⟨gm_aX3, List.forall_mem_cons.mpr ⟨gm_aX4, List.forall_mem_cons.mpr ⟨gm_aX5, List.forall_mem_cons.mpr ⟨gm_aX6, List.forall_mem_cons.mpr ⟨gm_aX7, List.forall_mem_cons.mpr ⟨gm_aJ, List.forall_mem_cons.mpr ⟨gm_aL, (fun _ h => nomatch h)⟩⟩⟩⟩⟩⟩⟩⟩⟩⟩⟩
theorem gm_allok : gm_Aok gm_MT := by
  refine ⟨gm_fcl, gm_farr, fun mid M h => ?_⟩
  unfold gm_MT at h
  split at h
  · rename_i t ht
    rw [gm_nth_some] at h ht
    exact gm_atab t (List.mem_of_getElem? ht) M (List.mem_of_getElem? h)
  · cases h
