/-! TABLES: what the claim's words say of them -/
theorem gm_asc_mem {α : Type} : ∀ {l : List (Nat × α)} {k : Nat} {a : α}, gm_asc l k = some a → (k, a) ∈ l
  | [], k, a, h => by simp [gm_asc] at h
  | (k0, a0) :: l, k, a, h => by
    simp only [gm_asc] at h
    cases hb : Nat.beq k0 k with
    | true =>
      rw [hb] at h
      simp only [cond_true, Option.some.injEq] at h
      rw [Nat.eq_of_beq_eq_true hb, h]
      exact List.mem_cons_self
    | false =>
      rw [hb] at h
      exact List.mem_cons_of_mem _ (gm_asc_mem h)
theorem gm_asc_all {α : Type} {l : List (Nat × α)} {P : Nat → α → Prop} (hl : ∀ x ∈ l, P x.1 x.2) {k : Nat} {a : α} (h : gm_asc l k = some a) : P k a := hl (k, a) (gm_asc_mem h)

theorem gm_u0 : Cond.selects RX3 yX3_firstUnmet yX3_firstUnmet ∈ gm_U := gm_U_in (List.mem_of_getElem? (l := lw_tbl) (i := 0) (by decide +kernel)) rfl
theorem gm_u1 : Cond.selects RX6 yX6_checkLetter yX6_checkLetter ∈ gm_U := gm_U_in (List.mem_of_getElem? (l := lw_tbl) (i := 1) (by decide +kernel)) rfl
theorem gm_u3 : Cond.selects RX4 yX4_find yX4_find ∈ gm_U := gm_U_in (List.mem_of_getElem? (l := lw_tbl) (i := 3) (by decide +kernel)) rfl
theorem gm_u4 : Cond.selects RX6 yX6_madeOrThrow yX6_madeOrThrow ∈ gm_U := gm_U_in (List.mem_of_getElem? (l := lw_tbl) (i := 4) (by decide +kernel)) rfl
theorem gm_u5 : Cond.selects RX6 yX6_checkTerm yX6_checkTerm ∈ gm_U := gm_U_in (List.mem_of_getElem? (l := lw_tbl) (i := 5) (by decide +kernel)) rfl
theorem gm_u6 : Cond.selects RX6 yX6_makePair yX6_makePair ∈ gm_U := gm_U_in (List.mem_of_getElem? (l := lw_tbl) (i := 6) (by decide +kernel)) rfl
theorem gm_u7 : Cond.selects RX4 yX4_leftOf yX4_leftOf ∈ gm_U := gm_U_in (List.mem_of_getElem? (l := lw_tbl) (i := 7) (by decide +kernel)) rfl
theorem gm_u8 : Cond.selects RX4 yX4_rightOf yX4_rightOf ∈ gm_U := gm_U_in (List.mem_of_getElem? (l := lw_tbl) (i := 8) (by decide +kernel)) rfl
theorem gm_u9 : Cond.selects RX4 yX4_headOf yX4_headOf ∈ gm_U := gm_U_in (List.mem_of_getElem? (l := lw_tbl) (i := 9) (by decide +kernel)) rfl
theorem gm_u10 : Cond.selects RX6 yX6_checkRegion yX6_checkRegion ∈ gm_U := gm_U_in (List.mem_of_getElem? (l := lw_tbl) (i := 10) (by decide +kernel)) rfl
theorem gm_u11 : Cond.selects RX4 yX4_reachesBelow yX4_reachesBelow ∈ gm_U := gm_U_in (List.mem_of_getElem? (l := lw_tbl) (i := 11) (by decide +kernel)) rfl
theorem gm_u12 : Cond.selects RX6 yX6_ruleOrThrow yX6_ruleOrThrow ∈ gm_U := gm_U_in (List.mem_of_getElem? (l := lw_tbl) (i := 12) (by decide +kernel)) rfl
theorem gm_u13 : Cond.selects RX1 yX1_ruleAt yX1_ruleAt ∈ gm_U := gm_U_in (List.mem_of_getElem? (l := lw_tbl) (i := 13) (by decide +kernel)) rfl
theorem gm_u14 : Cond.selects RX1 yX1_ruleOfPair yX1_ruleOfPair ∈ gm_U := gm_U_in (List.mem_of_getElem? (l := lw_tbl) (i := 14) (by decide +kernel)) rfl
theorem gm_u15 : Cond.selects RX6 yX6_rewriteOrThrow yX6_rewriteOrThrow ∈ gm_U := gm_U_in (List.mem_of_getElem? (l := lw_tbl) (i := 15) (by decide +kernel)) rfl
theorem gm_u16 : Cond.selects RX1 yX1_putRewritten yX1_putRewritten ∈ gm_U := gm_U_in (List.mem_of_getElem? (l := lw_tbl) (i := 16) (by decide +kernel)) rfl
theorem gm_u17 : Cond.selects RX1 yX1_putComplements yX1_putComplements ∈ gm_U := gm_U_in (List.mem_of_getElem? (l := lw_tbl) (i := 17) (by decide +kernel)) rfl
theorem gm_u18 : Cond.selects RX1 yX1_putDifferences yX1_putDifferences ∈ gm_U := gm_U_in (List.mem_of_getElem? (l := lw_tbl) (i := 18) (by decide +kernel)) rfl
theorem gm_u19 : Cond.selects RX1 yX1_putOtherSide yX1_putOtherSide ∈ gm_U := gm_U_in (List.mem_of_getElem? (l := lw_tbl) (i := 19) (by decide +kernel)) rfl
theorem gm_u20 : Cond.selects RX4 yX4_makeNext yX4_makeNext ∈ gm_U := gm_U_in (List.mem_of_getElem? (l := lw_tbl) (i := 20) (by decide +kernel)) rfl
theorem gm_u21 : Cond.selects RX0 yX0_joinParts yX0_joinParts ∈ gm_U := gm_U_in (List.mem_of_getElem? (l := lw_tbl) (i := 21) (by decide +kernel)) rfl
theorem gm_u22 : Cond.selects RX0 yX0_isInLarger yX0_isInLarger ∈ gm_U := gm_U_in (List.mem_of_getElem? (l := lw_tbl) (i := 22) (by decide +kernel)) rfl
theorem gm_u23 : Cond.selects RX6 yX6_checkStatement yX6_checkStatement ∈ gm_U := gm_U_in (List.mem_of_getElem? (l := lw_tbl) (i := 23) (by decide +kernel)) rfl
theorem gm_u24 : Cond.selects RX6 yX6_placesOf yX6_placesOf ∈ gm_U := gm_U_in (List.mem_of_getElem? (l := lw_tbl) (i := 24) (by decide +kernel)) rfl
theorem gm_u25 : Cond.selects RX6 yX6_checkGoal yX6_checkGoal ∈ gm_U := gm_U_in (List.mem_of_getElem? (l := lw_tbl) (i := 25) (by decide +kernel)) rfl
theorem gm_u26 : Cond.selects RX2 yX2_want yX2_want ∈ gm_U := gm_U_in (List.mem_of_getElem? (l := lw_tbl) (i := 26) (by decide +kernel)) rfl
theorem gm_u27 : Cond.selects RX2 yX2_fewestFrom yX2_fewestFrom ∈ gm_U := gm_U_in (List.mem_of_getElem? (l := lw_tbl) (i := 27) (by decide +kernel)) rfl
theorem gm_u28 : Cond.selects RX6 yX6_leastOrThrow yX6_leastOrThrow ∈ gm_U := gm_U_in (List.mem_of_getElem? (l := lw_tbl) (i := 28) (by decide +kernel)) rfl
theorem gm_u29 : Cond.selects RX2 yX2_canMeet yX2_canMeet ∈ gm_U := gm_U_in (List.mem_of_getElem? (l := lw_tbl) (i := 29) (by decide +kernel)) rfl
theorem gm_u30 : Cond.selects RX6 yX6_checkElements yX6_checkElements ∈ gm_U := gm_U_in (List.mem_of_getElem? (l := lw_tbl) (i := 30) (by decide +kernel)) rfl
theorem gm_u31 : Cond.selects RX3 yX3_isSetOfDemands yX3_isSetOfDemands ∈ gm_U := gm_U_in (List.mem_of_getElem? (l := lw_tbl) (i := 31) (by decide +kernel)) rfl
theorem gm_u32 : Cond.selects RX3 yX3_placesOfSet yX3_placesOfSet ∈ gm_U := gm_U_in (List.mem_of_getElem? (l := lw_tbl) (i := 32) (by decide +kernel)) rfl
theorem gm_u33 : Cond.selects RX3 yX3_allHold yX3_allHold ∈ gm_U := gm_U_in (List.mem_of_getElem? (l := lw_tbl) (i := 33) (by decide +kernel)) rfl
theorem gm_u34 : Cond.selects RX7 yX7_fail yX7_fail ∈ gm_U := gm_U_in (List.mem_of_getElem? (l := lw_tbl) (i := 34) (by decide +kernel)) rfl
theorem gm_u35 : Cond.selects RX7 yX7_makes yX7_makes ∈ gm_U := gm_U_in (List.mem_of_getElem? (l := lw_tbl) (i := 35) (by decide +kernel)) rfl
theorem gm_u36 : Cond.selects RX7 yX7_know yX7_know ∈ gm_U := gm_U_in (List.mem_of_getElem? (l := lw_tbl) (i := 36) (by decide +kernel)) rfl
theorem gm_u37 : Cond.selects RX7 yX7_covered yX7_covered ∈ gm_U := gm_U_in (List.mem_of_getElem? (l := lw_tbl) (i := 37) (by decide +kernel)) rfl
theorem gm_u38 : Cond.selects RX7 yX7_noTerm yX7_noTerm ∈ gm_U := gm_U_in (List.mem_of_getElem? (l := lw_tbl) (i := 38) (by decide +kernel)) rfl
theorem gm_u39 : Cond.selects RX7 yX7_pair yX7_pair ∈ gm_U := gm_U_in (List.mem_of_getElem? (l := lw_tbl) (i := 39) (by decide +kernel)) rfl
theorem gm_u40 : Cond.selects RX7 yX7_spell yX7_spell ∈ gm_U := gm_U_in (List.mem_of_getElem? (l := lw_tbl) (i := 40) (by decide +kernel)) rfl
theorem gm_u41 : Cond.selects RX7 yX7_write yX7_write ∈ gm_U := gm_U_in (List.mem_of_getElem? (l := lw_tbl) (i := 41) (by decide +kernel)) rfl
theorem gm_u42 : Cond.selects RX7 yX7_place yX7_place ∈ gm_U := gm_U_in (List.mem_of_getElem? (l := lw_tbl) (i := 42) (by decide +kernel)) rfl
theorem gm_u43 : Cond.selects RX7 yX7_ruleAt yX7_ruleAt ∈ gm_U := gm_U_in (List.mem_of_getElem? (l := lw_tbl) (i := 43) (by decide +kernel)) rfl
theorem gm_u44 : Cond.selects RX7 yX7_behind yX7_behind ∈ gm_U := gm_U_in (List.mem_of_getElem? (l := lw_tbl) (i := 44) (by decide +kernel)) rfl
theorem gm_u45 : Cond.selects RX7 yX7_isSame yX7_isSame ∈ gm_U := gm_U_in (List.mem_of_getElem? (l := lw_tbl) (i := 45) (by decide +kernel)) rfl
theorem gm_u46 : Cond.selects RX7 yX7_rewrite yX7_rewrite ∈ gm_U := gm_U_in (List.mem_of_getElem? (l := lw_tbl) (i := 46) (by decide +kernel)) rfl
theorem gm_u47 : Cond.selects RX7 yX7_copies yX7_copies ∈ gm_U := gm_U_in (List.mem_of_getElem? (l := lw_tbl) (i := 47) (by decide +kernel)) rfl
theorem gm_u48 : Cond.selects RX7 yX7_puts yX7_puts ∈ gm_U := gm_U_in (List.mem_of_getElem? (l := lw_tbl) (i := 48) (by decide +kernel)) rfl
theorem gm_u49 : Cond.selects RX7 yX7_learns yX7_learns ∈ gm_U := gm_U_in (List.mem_of_getElem? (l := lw_tbl) (i := 49) (by decide +kernel)) rfl
theorem gm_u50 : Cond.selects RX7 yX7_parse yX7_parse ∈ gm_U := gm_U_in (List.mem_of_getElem? (l := lw_tbl) (i := 50) (by decide +kernel)) rfl
theorem gm_u51 : Cond.selects RX7 yX7_areTerms yX7_areTerms ∈ gm_U := gm_U_in (List.mem_of_getElem? (l := lw_tbl) (i := 51) (by decide +kernel)) rfl
theorem gm_u52 : Cond.selects RX7 yX7_allowed yX7_allowed ∈ gm_U := gm_U_in (List.mem_of_getElem? (l := lw_tbl) (i := 52) (by decide +kernel)) rfl
theorem gm_u53 : Cond.selects RX7 yX7_assumed yX7_assumed ∈ gm_U := gm_U_in (List.mem_of_getElem? (l := lw_tbl) (i := 53) (by decide +kernel)) rfl
theorem gm_u54 : Cond.selects RX7 yX7_regionsOf yX7_regionsOf ∈ gm_U := gm_U_in (List.mem_of_getElem? (l := lw_tbl) (i := 54) (by decide +kernel)) rfl
theorem gm_u55 : Cond.selects RX7 yX7_hasModel yX7_hasModel ∈ gm_U := gm_U_in (List.mem_of_getElem? (l := lw_tbl) (i := 55) (by decide +kernel)) rfl
theorem gm_u56 : Cond.selects RX7 yX7_noGoal yX7_noGoal ∈ gm_U := gm_U_in (List.mem_of_getElem? (l := lw_tbl) (i := 56) (by decide +kernel)) rfl
theorem gm_u57 : Cond.selects RX7 yX7_isFollowing yX7_isFollowing ∈ gm_U := gm_U_in (List.mem_of_getElem? (l := lw_tbl) (i := 57) (by decide +kernel)) rfl
theorem gm_u58 : Cond.selects RX7 yX7_counter yX7_counter ∈ gm_U := gm_U_in (List.mem_of_getElem? (l := lw_tbl) (i := 58) (by decide +kernel)) rfl
theorem gm_u59 : Cond.selects RX7 yX7_goal yX7_goal ∈ gm_U := gm_U_in (List.mem_of_getElem? (l := lw_tbl) (i := 59) (by decide +kernel)) rfl
theorem gm_u60 : Cond.selects RX7 yX7_noCounterexample yX7_noCounterexample ∈ gm_U := gm_U_in (List.mem_of_getElem? (l := lw_tbl) (i := 60) (by decide +kernel)) rfl
theorem gm_u61 : Cond.selects RX7 yX7_least yX7_least ∈ gm_U := gm_U_in (List.mem_of_getElem? (l := lw_tbl) (i := 61) (by decide +kernel)) rfl
theorem gm_u62 : Cond.selects RX7 yX7_choose yX7_choose ∈ gm_U := gm_U_in (List.mem_of_getElem? (l := lw_tbl) (i := 62) (by decide +kernel)) rfl
theorem gm_u63 : Cond.selects RX7 yX7_ways yX7_ways ∈ gm_U := gm_U_in (List.mem_of_getElem? (l := lw_tbl) (i := 63) (by decide +kernel)) rfl
theorem gm_u64 : Cond.initialized RL ∈ gm_U := gm_U_in (List.mem_of_getElem? (l := lw_tbl) (i := 64) (by decide +kernel)) rfl
theorem gm_u65 : Cond.initialized RX6 ∈ gm_U := gm_U_in (List.mem_of_getElem? (l := lw_tbl) (i := 65) (by decide +kernel)) rfl
theorem gm_u66 : Cond.initialized RX4 ∈ gm_U := gm_U_in (List.mem_of_getElem? (l := lw_tbl) (i := 66) (by decide +kernel)) rfl
theorem gm_u67 : Cond.initialized RX1 ∈ gm_U := gm_U_in (List.mem_of_getElem? (l := lw_tbl) (i := 67) (by decide +kernel)) rfl
theorem gm_u68 : Cond.initialized RX5 ∈ gm_U := gm_U_in (List.mem_of_getElem? (l := lw_tbl) (i := 68) (by decide +kernel)) rfl
theorem gm_u69 : Cond.initialized RX0 ∈ gm_U := gm_U_in (List.mem_of_getElem? (l := lw_tbl) (i := 69) (by decide +kernel)) rfl
theorem gm_u70 : Cond.initialized RX3 ∈ gm_U := gm_U_in (List.mem_of_getElem? (l := lw_tbl) (i := 70) (by decide +kernel)) rfl
theorem gm_u71 : Cond.initialized RX2 ∈ gm_U := gm_U_in (List.mem_of_getElem? (l := lw_tbl) (i := 71) (by decide +kernel)) rfl
theorem gm_u72 : Cond.initialized RX7 ∈ gm_U := gm_U_in (List.mem_of_getElem? (l := lw_tbl) (i := 72) (by decide +kernel)) rfl
theorem gm_u80 : Cond.initialized RJ6 ∈ gm_U := gm_U_in (List.mem_of_getElem? (l := lw_tbl) (i := 80) (by decide +kernel)) rfl
theorem gm_u81 : Cond.initialized RJ9 ∈ gm_U := gm_U_in (List.mem_of_getElem? (l := lw_tbl) (i := 81) (by decide +kernel)) rfl
theorem gm_u83 : Cond.classLink RL 8 RX6 ∈ gm_U := gm_U_in (List.mem_of_getElem? (l := lw_tbl) (i := 83) (by decide +kernel)) rfl
theorem gm_u84 : Cond.instantiable RX6 5 ∈ gm_U := gm_U_in (List.mem_of_getElem? (l := lw_tbl) (i := 84) (by decide +kernel)) rfl
theorem gm_u85 : Cond.methodLink RL 134 yX6_init ∈ gm_U := gm_U_in (List.mem_of_getElem? (l := lw_tbl) (i := 85) (by decide +kernel)) rfl
theorem gm_u86 : Cond.instanceMethod yX6_init ∈ gm_U := gm_U_in (List.mem_of_getElem? (l := lw_tbl) (i := 86) (by decide +kernel)) rfl
theorem gm_u87 : Cond.code yX6_init cX6_init 1 none ∈ gm_U := gm_U_in (List.mem_of_getElem? (l := lw_tbl) (i := 87) (by decide +kernel)) rfl
theorem gm_u88 : Cond.methodLink RX6 1 objectInit ∈ gm_U := gm_U_in (List.mem_of_getElem? (l := lw_tbl) (i := 88) (by decide +kernel)) rfl
theorem gm_u89 : Cond.instanceMethod objectInit ∈ gm_U := gm_U_in (List.mem_of_getElem? (l := lw_tbl) (i := 89) (by decide +kernel)) rfl
theorem gm_u90 : Cond.code objectInit ⟨#[0xb1]⟩ 1 none ∈ gm_U := gm_U_in (List.mem_of_getElem? (l := lw_tbl) (i := 90) (by decide +kernel)) rfl
theorem gm_u91 : Cond.classLink RX6 7 RX4 ∈ gm_U := gm_U_in (List.mem_of_getElem? (l := lw_tbl) (i := 91) (by decide +kernel)) rfl
theorem gm_u92 : Cond.instantiable RX4 6 ∈ gm_U := gm_U_in (List.mem_of_getElem? (l := lw_tbl) (i := 92) (by decide +kernel)) rfl
theorem gm_u94 : Cond.instanceMethod yX4_init ∈ gm_U := gm_U_in (List.mem_of_getElem? (l := lw_tbl) (i := 94) (by decide +kernel)) rfl
theorem gm_u95 : Cond.code yX4_init cX4_init 1 none ∈ gm_U := gm_U_in (List.mem_of_getElem? (l := lw_tbl) (i := 95) (by decide +kernel)) rfl
theorem gm_u96 : Cond.methodLink RX4 3 objectInit ∈ gm_U := gm_U_in (List.mem_of_getElem? (l := lw_tbl) (i := 96) (by decide +kernel)) rfl
theorem gm_u97 : Cond.fieldLink RX4 9 "Gimlet$Terms" "heads" "[C" ∈ gm_U := gm_U_in (List.mem_of_getElem? (l := lw_tbl) (i := 97) (by decide +kernel)) rfl
theorem gm_u98 : Cond.fieldLink RX4 15 "Gimlet$Terms" "lefts" "[I" ∈ gm_U := gm_U_in (List.mem_of_getElem? (l := lw_tbl) (i := 98) (by decide +kernel)) rfl
theorem gm_u99 : Cond.fieldLink RX4 19 "Gimlet$Terms" "rights" "[I" ∈ gm_U := gm_U_in (List.mem_of_getElem? (l := lw_tbl) (i := 99) (by decide +kernel)) rfl
theorem gm_u100 : Cond.fieldLink RX4 22 "Gimlet$Terms" "sizes" "[I" ∈ gm_U := gm_U_in (List.mem_of_getElem? (l := lw_tbl) (i := 100) (by decide +kernel)) rfl
theorem gm_u101 : Cond.fieldLink RX4 25 "Gimlet$Terms" "covered" "[I" ∈ gm_U := gm_U_in (List.mem_of_getElem? (l := lw_tbl) (i := 101) (by decide +kernel)) rfl
theorem gm_u102 : Cond.fieldLink RX4 28 "Gimlet$Terms" "count" "I" ∈ gm_U := gm_U_in (List.mem_of_getElem? (l := lw_tbl) (i := 102) (by decide +kernel)) rfl
theorem gm_u103 : Cond.laysFinal RX4 "Gimlet$Terms" "heads" "[C" ∈ gm_U := gm_U_in (List.mem_of_getElem? (l := lw_tbl) (i := 103) (by decide +kernel)) rfl
theorem gm_u105 : Cond.laysFinal RX4 "Gimlet$Terms" "lefts" "[I" ∈ gm_U := gm_U_in (List.mem_of_getElem? (l := lw_tbl) (i := 105) (by decide +kernel)) rfl
theorem gm_u107 : Cond.laysFinal RX4 "Gimlet$Terms" "rights" "[I" ∈ gm_U := gm_U_in (List.mem_of_getElem? (l := lw_tbl) (i := 107) (by decide +kernel)) rfl
theorem gm_u109 : Cond.laysFinal RX4 "Gimlet$Terms" "sizes" "[I" ∈ gm_U := gm_U_in (List.mem_of_getElem? (l := lw_tbl) (i := 109) (by decide +kernel)) rfl
theorem gm_u111 : Cond.laysFinal RX4 "Gimlet$Terms" "covered" "[I" ∈ gm_U := gm_U_in (List.mem_of_getElem? (l := lw_tbl) (i := 111) (by decide +kernel)) rfl
theorem gm_u113 : Cond.lays RX4 "Gimlet$Terms" "count" "I" ∈ gm_U := gm_U_in (List.mem_of_getElem? (l := lw_tbl) (i := 113) (by decide +kernel)) rfl
theorem gm_u116 : Cond.arrayClass .char ∈ gm_U := gm_U_in (List.mem_of_getElem? (l := lw_tbl) (i := 116) (by decide +kernel)) rfl
theorem gm_u117 : Cond.arrayClass .int ∈ gm_U := gm_U_in (List.mem_of_getElem? (l := lw_tbl) (i := 117) (by decide +kernel)) rfl
theorem gm_u118 : Cond.classLink RX6 16 RX1 ∈ gm_U := gm_U_in (List.mem_of_getElem? (l := lw_tbl) (i := 118) (by decide +kernel)) rfl
theorem gm_u119 : Cond.instantiable RX1 4 ∈ gm_U := gm_U_in (List.mem_of_getElem? (l := lw_tbl) (i := 119) (by decide +kernel)) rfl
theorem gm_u121 : Cond.instanceMethod yX1_init ∈ gm_U := gm_U_in (List.mem_of_getElem? (l := lw_tbl) (i := 121) (by decide +kernel)) rfl
theorem gm_u122 : Cond.code yX1_init cX1_init 1 none ∈ gm_U := gm_U_in (List.mem_of_getElem? (l := lw_tbl) (i := 122) (by decide +kernel)) rfl
theorem gm_u123 : Cond.methodLink RX1 3 objectInit ∈ gm_U := gm_U_in (List.mem_of_getElem? (l := lw_tbl) (i := 123) (by decide +kernel)) rfl
theorem gm_u124 : Cond.classLink RX1 9 RX5 ∈ gm_U := gm_U_in (List.mem_of_getElem? (l := lw_tbl) (i := 124) (by decide +kernel)) rfl
theorem gm_u125 : Cond.instantiable RX5 4 ∈ gm_U := gm_U_in (List.mem_of_getElem? (l := lw_tbl) (i := 125) (by decide +kernel)) rfl
theorem gm_u127 : Cond.instanceMethod yX5_init ∈ gm_U := gm_U_in (List.mem_of_getElem? (l := lw_tbl) (i := 127) (by decide +kernel)) rfl
theorem gm_u128 : Cond.code yX5_init cX5_init 1 none ∈ gm_U := gm_U_in (List.mem_of_getElem? (l := lw_tbl) (i := 128) (by decide +kernel)) rfl
theorem gm_u129 : Cond.methodLink RX5 3 objectInit ∈ gm_U := gm_U_in (List.mem_of_getElem? (l := lw_tbl) (i := 129) (by decide +kernel)) rfl
theorem gm_u130 : Cond.fieldLink RX5 11 "Gimlet$Text" "row" "[C" ∈ gm_U := gm_U_in (List.mem_of_getElem? (l := lw_tbl) (i := 130) (by decide +kernel)) rfl
theorem gm_u131 : Cond.fieldLink RX5 15 "Gimlet$Text" "ends" "[I" ∈ gm_U := gm_U_in (List.mem_of_getElem? (l := lw_tbl) (i := 131) (by decide +kernel)) rfl
theorem gm_u132 : Cond.fieldLink RX5 19 "Gimlet$Text" "length" "I" ∈ gm_U := gm_U_in (List.mem_of_getElem? (l := lw_tbl) (i := 132) (by decide +kernel)) rfl
theorem gm_u133 : Cond.fieldLink RX5 23 "Gimlet$Text" "cursor" "I" ∈ gm_U := gm_U_in (List.mem_of_getElem? (l := lw_tbl) (i := 133) (by decide +kernel)) rfl
theorem gm_u134 : Cond.laysFinal RX5 "Gimlet$Text" "row" "[C" ∈ gm_U := gm_U_in (List.mem_of_getElem? (l := lw_tbl) (i := 134) (by decide +kernel)) rfl
theorem gm_u136 : Cond.laysFinal RX5 "Gimlet$Text" "ends" "[I" ∈ gm_U := gm_U_in (List.mem_of_getElem? (l := lw_tbl) (i := 136) (by decide +kernel)) rfl
theorem gm_u138 : Cond.lays RX5 "Gimlet$Text" "length" "I" ∈ gm_U := gm_U_in (List.mem_of_getElem? (l := lw_tbl) (i := 138) (by decide +kernel)) rfl
theorem gm_u140 : Cond.lays RX5 "Gimlet$Text" "cursor" "I" ∈ gm_U := gm_U_in (List.mem_of_getElem? (l := lw_tbl) (i := 140) (by decide +kernel)) rfl
theorem gm_u143 : Cond.fieldLink RX1 12 "Gimlet$Rewriter" "now" "LGimlet$Text;" ∈ gm_U := gm_U_in (List.mem_of_getElem? (l := lw_tbl) (i := 143) (by decide +kernel)) rfl
theorem gm_u144 : Cond.fieldLink RX1 18 "Gimlet$Rewriter" "next" "LGimlet$Text;" ∈ gm_U := gm_U_in (List.mem_of_getElem? (l := lw_tbl) (i := 144) (by decide +kernel)) rfl
theorem gm_u145 : Cond.fieldLink RX1 21 "Gimlet$Rewriter" "place" "I" ∈ gm_U := gm_U_in (List.mem_of_getElem? (l := lw_tbl) (i := 145) (by decide +kernel)) rfl
theorem gm_u146 : Cond.fieldLink RX1 25 "Gimlet$Rewriter" "rule" "C" ∈ gm_U := gm_U_in (List.mem_of_getElem? (l := lw_tbl) (i := 146) (by decide +kernel)) rfl
theorem gm_u147 : Cond.lays RX1 "Gimlet$Rewriter" "now" "LGimlet$Text;" ∈ gm_U := gm_U_in (List.mem_of_getElem? (l := lw_tbl) (i := 147) (by decide +kernel)) rfl
theorem gm_u149 : Cond.lays RX1 "Gimlet$Rewriter" "next" "LGimlet$Text;" ∈ gm_U := gm_U_in (List.mem_of_getElem? (l := lw_tbl) (i := 149) (by decide +kernel)) rfl
theorem gm_u151 : Cond.lays RX1 "Gimlet$Rewriter" "place" "I" ∈ gm_U := gm_U_in (List.mem_of_getElem? (l := lw_tbl) (i := 151) (by decide +kernel)) rfl
theorem gm_u153 : Cond.lays RX1 "Gimlet$Rewriter" "rule" "C" ∈ gm_U := gm_U_in (List.mem_of_getElem? (l := lw_tbl) (i := 153) (by decide +kernel)) rfl
theorem gm_u156 : Cond.classLink RX6 23 RX0 ∈ gm_U := gm_U_in (List.mem_of_getElem? (l := lw_tbl) (i := 156) (by decide +kernel)) rfl
theorem gm_u157 : Cond.instantiable RX0 3 ∈ gm_U := gm_U_in (List.mem_of_getElem? (l := lw_tbl) (i := 157) (by decide +kernel)) rfl
theorem gm_u158 : Cond.methodLink RX6 25 yX0_init ∈ gm_U := gm_U_in (List.mem_of_getElem? (l := lw_tbl) (i := 158) (by decide +kernel)) rfl
theorem gm_u159 : Cond.instanceMethod yX0_init ∈ gm_U := gm_U_in (List.mem_of_getElem? (l := lw_tbl) (i := 159) (by decide +kernel)) rfl
theorem gm_u160 : Cond.code yX0_init cX0_init 2 none ∈ gm_U := gm_U_in (List.mem_of_getElem? (l := lw_tbl) (i := 160) (by decide +kernel)) rfl
theorem gm_u161 : Cond.methodLink RX0 3 objectInit ∈ gm_U := gm_U_in (List.mem_of_getElem? (l := lw_tbl) (i := 161) (by decide +kernel)) rfl
theorem gm_u162 : Cond.methodLink RX0 22 yX0_regionsIn ∈ gm_U := gm_U_in (List.mem_of_getElem? (l := lw_tbl) (i := 162) (by decide +kernel)) rfl
theorem gm_u163 : Cond.static yX0_regionsIn ∈ gm_U := gm_U_in (List.mem_of_getElem? (l := lw_tbl) (i := 163) (by decide +kernel)) rfl
theorem gm_u164 : Cond.code yX0_regionsIn cX0_regionsIn 3 (some .int) ∈ gm_U := gm_U_in (List.mem_of_getElem? (l := lw_tbl) (i := 164) (by decide +kernel)) rfl
theorem gm_u165 : Cond.methodLink RX0 30 yX0_contains ∈ gm_U := gm_U_in (List.mem_of_getElem? (l := lw_tbl) (i := 165) (by decide +kernel)) rfl
theorem gm_u166 : Cond.static yX0_contains ∈ gm_U := gm_U_in (List.mem_of_getElem? (l := lw_tbl) (i := 166) (by decide +kernel)) rfl
theorem gm_u167 : Cond.code yX0_contains cX0_contains 4 (some .boolean) ∈ gm_U := gm_U_in (List.mem_of_getElem? (l := lw_tbl) (i := 167) (by decide +kernel)) rfl
theorem gm_u168 : Cond.methodLink RX0 26 yX0_digitOf ∈ gm_U := gm_U_in (List.mem_of_getElem? (l := lw_tbl) (i := 168) (by decide +kernel)) rfl
theorem gm_u169 : Cond.static yX0_digitOf ∈ gm_U := gm_U_in (List.mem_of_getElem? (l := lw_tbl) (i := 169) (by decide +kernel)) rfl
theorem gm_u170 : Cond.code yX0_digitOf cX0_digitOf 2 (some .int) ∈ gm_U := gm_U_in (List.mem_of_getElem? (l := lw_tbl) (i := 170) (by decide +kernel)) rfl
theorem gm_u172 : Cond.static yX6_isIn ∈ gm_U := gm_U_in (List.mem_of_getElem? (l := lw_tbl) (i := 172) (by decide +kernel)) rfl
theorem gm_u173 : Cond.code yX6_isIn cX6_isIn 2 (some .boolean) ∈ gm_U := gm_U_in (List.mem_of_getElem? (l := lw_tbl) (i := 173) (by decide +kernel)) rfl
theorem gm_u174 : Cond.fieldLink RX0 11 "Gimlet$Cubes" "contained" "[I" ∈ gm_U := gm_U_in (List.mem_of_getElem? (l := lw_tbl) (i := 174) (by decide +kernel)) rfl
theorem gm_u175 : Cond.fieldLink RX0 15 "Gimlet$Cubes" "implicant" "[Z" ∈ gm_U := gm_U_in (List.mem_of_getElem? (l := lw_tbl) (i := 175) (by decide +kernel)) rfl
theorem gm_u176 : Cond.fieldLink RX0 19 "Gimlet$Cubes" "joined" "[Z" ∈ gm_U := gm_U_in (List.mem_of_getElem? (l := lw_tbl) (i := 176) (by decide +kernel)) rfl
theorem gm_u177 : Cond.laysFinal RX0 "Gimlet$Cubes" "contained" "[I" ∈ gm_U := gm_U_in (List.mem_of_getElem? (l := lw_tbl) (i := 177) (by decide +kernel)) rfl
theorem gm_u179 : Cond.laysFinal RX0 "Gimlet$Cubes" "implicant" "[Z" ∈ gm_U := gm_U_in (List.mem_of_getElem? (l := lw_tbl) (i := 179) (by decide +kernel)) rfl
theorem gm_u181 : Cond.laysFinal RX0 "Gimlet$Cubes" "joined" "[Z" ∈ gm_U := gm_U_in (List.mem_of_getElem? (l := lw_tbl) (i := 181) (by decide +kernel)) rfl
theorem gm_u184 : Cond.arrayClass .boolean ∈ gm_U := gm_U_in (List.mem_of_getElem? (l := lw_tbl) (i := 184) (by decide +kernel)) rfl
theorem gm_u185 : Cond.classLink RX6 30 RX3 ∈ gm_U := gm_U_in (List.mem_of_getElem? (l := lw_tbl) (i := 185) (by decide +kernel)) rfl
theorem gm_u186 : Cond.instantiable RX3 6 ∈ gm_U := gm_U_in (List.mem_of_getElem? (l := lw_tbl) (i := 186) (by decide +kernel)) rfl
theorem gm_u188 : Cond.instanceMethod yX3_init ∈ gm_U := gm_U_in (List.mem_of_getElem? (l := lw_tbl) (i := 188) (by decide +kernel)) rfl
theorem gm_u189 : Cond.code yX3_init cX3_init 1 none ∈ gm_U := gm_U_in (List.mem_of_getElem? (l := lw_tbl) (i := 189) (by decide +kernel)) rfl
theorem gm_u190 : Cond.methodLink RX3 3 objectInit ∈ gm_U := gm_U_in (List.mem_of_getElem? (l := lw_tbl) (i := 190) (by decide +kernel)) rfl
theorem gm_u191 : Cond.fieldLink RX3 9 "Gimlet$Statements" "demanding" "[Z" ∈ gm_U := gm_U_in (List.mem_of_getElem? (l := lw_tbl) (i := 191) (by decide +kernel)) rfl
theorem gm_u192 : Cond.fieldLink RX3 15 "Gimlet$Statements" "places" "[I" ∈ gm_U := gm_U_in (List.mem_of_getElem? (l := lw_tbl) (i := 192) (by decide +kernel)) rfl
theorem gm_u193 : Cond.fieldLink RX3 19 "Gimlet$Statements" "count" "I" ∈ gm_U := gm_U_in (List.mem_of_getElem? (l := lw_tbl) (i := 193) (by decide +kernel)) rfl
theorem gm_u194 : Cond.fieldLink RX3 23 "Gimlet$Statements" "goalSet" "Z" ∈ gm_U := gm_U_in (List.mem_of_getElem? (l := lw_tbl) (i := 194) (by decide +kernel)) rfl
theorem gm_u195 : Cond.fieldLink RX3 27 "Gimlet$Statements" "goalDemanding" "Z" ∈ gm_U := gm_U_in (List.mem_of_getElem? (l := lw_tbl) (i := 195) (by decide +kernel)) rfl
theorem gm_u196 : Cond.fieldLink RX3 30 "Gimlet$Statements" "goalPlaces" "I" ∈ gm_U := gm_U_in (List.mem_of_getElem? (l := lw_tbl) (i := 196) (by decide +kernel)) rfl
theorem gm_u197 : Cond.laysFinal RX3 "Gimlet$Statements" "demanding" "[Z" ∈ gm_U := gm_U_in (List.mem_of_getElem? (l := lw_tbl) (i := 197) (by decide +kernel)) rfl
theorem gm_u199 : Cond.laysFinal RX3 "Gimlet$Statements" "places" "[I" ∈ gm_U := gm_U_in (List.mem_of_getElem? (l := lw_tbl) (i := 199) (by decide +kernel)) rfl
theorem gm_u201 : Cond.lays RX3 "Gimlet$Statements" "count" "I" ∈ gm_U := gm_U_in (List.mem_of_getElem? (l := lw_tbl) (i := 201) (by decide +kernel)) rfl
theorem gm_u203 : Cond.lays RX3 "Gimlet$Statements" "goalSet" "Z" ∈ gm_U := gm_U_in (List.mem_of_getElem? (l := lw_tbl) (i := 203) (by decide +kernel)) rfl
theorem gm_u205 : Cond.lays RX3 "Gimlet$Statements" "goalDemanding" "Z" ∈ gm_U := gm_U_in (List.mem_of_getElem? (l := lw_tbl) (i := 205) (by decide +kernel)) rfl
theorem gm_u207 : Cond.lays RX3 "Gimlet$Statements" "goalPlaces" "I" ∈ gm_U := gm_U_in (List.mem_of_getElem? (l := lw_tbl) (i := 207) (by decide +kernel)) rfl
theorem gm_u210 : Cond.classLink RX6 37 RX2 ∈ gm_U := gm_U_in (List.mem_of_getElem? (l := lw_tbl) (i := 210) (by decide +kernel)) rfl
theorem gm_u211 : Cond.instantiable RX2 3 ∈ gm_U := gm_U_in (List.mem_of_getElem? (l := lw_tbl) (i := 211) (by decide +kernel)) rfl
theorem gm_u213 : Cond.instanceMethod yX2_init ∈ gm_U := gm_U_in (List.mem_of_getElem? (l := lw_tbl) (i := 213) (by decide +kernel)) rfl
theorem gm_u214 : Cond.code yX2_init cX2_init 1 none ∈ gm_U := gm_U_in (List.mem_of_getElem? (l := lw_tbl) (i := 214) (by decide +kernel)) rfl
theorem gm_u215 : Cond.methodLink RX2 5 objectInit ∈ gm_U := gm_U_in (List.mem_of_getElem? (l := lw_tbl) (i := 215) (by decide +kernel)) rfl
theorem gm_u216 : Cond.fieldLink RX2 11 "Gimlet$Search" "meets" "[I" ∈ gm_U := gm_U_in (List.mem_of_getElem? (l := lw_tbl) (i := 216) (by decide +kernel)) rfl
theorem gm_u217 : Cond.fieldLink RX2 15 "Gimlet$Search" "fewest" "[I" ∈ gm_U := gm_U_in (List.mem_of_getElem? (l := lw_tbl) (i := 217) (by decide +kernel)) rfl
theorem gm_u218 : Cond.fieldLink RX2 18 "Gimlet$Search" "wanted" "I" ∈ gm_U := gm_U_in (List.mem_of_getElem? (l := lw_tbl) (i := 218) (by decide +kernel)) rfl
theorem gm_u219 : Cond.laysFinal RX2 "Gimlet$Search" "meets" "[I" ∈ gm_U := gm_U_in (List.mem_of_getElem? (l := lw_tbl) (i := 219) (by decide +kernel)) rfl
theorem gm_u221 : Cond.laysFinal RX2 "Gimlet$Search" "fewest" "[I" ∈ gm_U := gm_U_in (List.mem_of_getElem? (l := lw_tbl) (i := 221) (by decide +kernel)) rfl
theorem gm_u223 : Cond.lays RX2 "Gimlet$Search" "wanted" "I" ∈ gm_U := gm_U_in (List.mem_of_getElem? (l := lw_tbl) (i := 223) (by decide +kernel)) rfl
theorem gm_u226 : Cond.fieldLink RX6 10 "Gimlet" "known" "LGimlet$Terms;" ∈ gm_U := gm_U_in (List.mem_of_getElem? (l := lw_tbl) (i := 226) (by decide +kernel)) rfl
theorem gm_u227 : Cond.fieldLink RX6 19 "Gimlet" "rewriter" "LGimlet$Rewriter;" ∈ gm_U := gm_U_in (List.mem_of_getElem? (l := lw_tbl) (i := 227) (by decide +kernel)) rfl
theorem gm_u228 : Cond.fieldLink RX6 26 "Gimlet" "cubes" "LGimlet$Cubes;" ∈ gm_U := gm_U_in (List.mem_of_getElem? (l := lw_tbl) (i := 228) (by decide +kernel)) rfl
theorem gm_u229 : Cond.fieldLink RX6 33 "Gimlet" "stated" "LGimlet$Statements;" ∈ gm_U := gm_U_in (List.mem_of_getElem? (l := lw_tbl) (i := 229) (by decide +kernel)) rfl
theorem gm_u230 : Cond.fieldLink RX6 40 "Gimlet" "search" "LGimlet$Search;" ∈ gm_U := gm_U_in (List.mem_of_getElem? (l := lw_tbl) (i := 230) (by decide +kernel)) rfl
theorem gm_u231 : Cond.laysFinal RX6 "Gimlet" "known" "LGimlet$Terms;" ∈ gm_U := gm_U_in (List.mem_of_getElem? (l := lw_tbl) (i := 231) (by decide +kernel)) rfl
theorem gm_u233 : Cond.laysFinal RX6 "Gimlet" "rewriter" "LGimlet$Rewriter;" ∈ gm_U := gm_U_in (List.mem_of_getElem? (l := lw_tbl) (i := 233) (by decide +kernel)) rfl
theorem gm_u235 : Cond.laysFinal RX6 "Gimlet" "cubes" "LGimlet$Cubes;" ∈ gm_U := gm_U_in (List.mem_of_getElem? (l := lw_tbl) (i := 235) (by decide +kernel)) rfl
theorem gm_u237 : Cond.laysFinal RX6 "Gimlet" "stated" "LGimlet$Statements;" ∈ gm_U := gm_U_in (List.mem_of_getElem? (l := lw_tbl) (i := 237) (by decide +kernel)) rfl
theorem gm_u239 : Cond.laysFinal RX6 "Gimlet" "search" "LGimlet$Search;" ∈ gm_U := gm_U_in (List.mem_of_getElem? (l := lw_tbl) (i := 239) (by decide +kernel)) rfl
theorem gm_u242 : Cond.methodLink RL 170 yX6_terms ∈ gm_U := gm_U_in (List.mem_of_getElem? (l := lw_tbl) (i := 242) (by decide +kernel)) rfl
theorem gm_u243 : Cond.instanceMethod yX6_terms ∈ gm_U := gm_U_in (List.mem_of_getElem? (l := lw_tbl) (i := 243) (by decide +kernel)) rfl
theorem gm_u244 : Cond.selects RX6 yX6_terms yX6_terms ∈ gm_U := gm_U_in (List.mem_of_getElem? (l := lw_tbl) (i := 244) (by decide +kernel)) rfl
theorem gm_u245 : Cond.code yX6_terms cX6_terms 1 (some .int) ∈ gm_U := gm_U_in (List.mem_of_getElem? (l := lw_tbl) (i := 245) (by decide +kernel)) rfl
theorem gm_u246 : Cond.methodLink RX6 62 yX4_howMany ∈ gm_U := gm_U_in (List.mem_of_getElem? (l := lw_tbl) (i := 246) (by decide +kernel)) rfl
theorem gm_u247 : Cond.instanceMethod yX4_howMany ∈ gm_U := gm_U_in (List.mem_of_getElem? (l := lw_tbl) (i := 247) (by decide +kernel)) rfl
theorem gm_u248 : Cond.selects RX4 yX4_howMany yX4_howMany ∈ gm_U := gm_U_in (List.mem_of_getElem? (l := lw_tbl) (i := 248) (by decide +kernel)) rfl
theorem gm_u249 : Cond.code yX4_howMany cX4_howMany 1 (some .int) ∈ gm_U := gm_U_in (List.mem_of_getElem? (l := lw_tbl) (i := 249) (by decide +kernel)) rfl
theorem gm_u250 : Cond.methodLink RL 221 yX6_assumptions ∈ gm_U := gm_U_in (List.mem_of_getElem? (l := lw_tbl) (i := 250) (by decide +kernel)) rfl
theorem gm_u251 : Cond.instanceMethod yX6_assumptions ∈ gm_U := gm_U_in (List.mem_of_getElem? (l := lw_tbl) (i := 251) (by decide +kernel)) rfl
theorem gm_u252 : Cond.selects RX6 yX6_assumptions yX6_assumptions ∈ gm_U := gm_U_in (List.mem_of_getElem? (l := lw_tbl) (i := 252) (by decide +kernel)) rfl
theorem gm_u253 : Cond.code yX6_assumptions cX6_assumptions 1 (some .int) ∈ gm_U := gm_U_in (List.mem_of_getElem? (l := lw_tbl) (i := 253) (by decide +kernel)) rfl
theorem gm_u254 : Cond.methodLink RX6 177 yX3_howMany ∈ gm_U := gm_U_in (List.mem_of_getElem? (l := lw_tbl) (i := 254) (by decide +kernel)) rfl
theorem gm_u255 : Cond.instanceMethod yX3_howMany ∈ gm_U := gm_U_in (List.mem_of_getElem? (l := lw_tbl) (i := 255) (by decide +kernel)) rfl
theorem gm_u256 : Cond.selects RX3 yX3_howMany yX3_howMany ∈ gm_U := gm_U_in (List.mem_of_getElem? (l := lw_tbl) (i := 256) (by decide +kernel)) rfl
theorem gm_u257 : Cond.code yX3_howMany cX3_howMany 1 (some .int) ∈ gm_U := gm_U_in (List.mem_of_getElem? (l := lw_tbl) (i := 257) (by decide +kernel)) rfl
theorem gm_u258 : Cond.methodLink RL 228 yX6_isConsistent ∈ gm_U := gm_U_in (List.mem_of_getElem? (l := lw_tbl) (i := 258) (by decide +kernel)) rfl
theorem gm_u259 : Cond.instanceMethod yX6_isConsistent ∈ gm_U := gm_U_in (List.mem_of_getElem? (l := lw_tbl) (i := 259) (by decide +kernel)) rfl
theorem gm_u260 : Cond.selects RX6 yX6_isConsistent yX6_isConsistent ∈ gm_U := gm_U_in (List.mem_of_getElem? (l := lw_tbl) (i := 260) (by decide +kernel)) rfl
theorem gm_u261 : Cond.code yX6_isConsistent cX6_isConsistent 1 (some .boolean) ∈ gm_U := gm_U_in (List.mem_of_getElem? (l := lw_tbl) (i := 261) (by decide +kernel)) rfl
theorem gm_u262 : Cond.methodLink RX6 202 yX3_haveModel ∈ gm_U := gm_U_in (List.mem_of_getElem? (l := lw_tbl) (i := 262) (by decide +kernel)) rfl
theorem gm_u263 : Cond.instanceMethod yX3_haveModel ∈ gm_U := gm_U_in (List.mem_of_getElem? (l := lw_tbl) (i := 263) (by decide +kernel)) rfl
theorem gm_u264 : Cond.selects RX3 yX3_haveModel yX3_haveModel ∈ gm_U := gm_U_in (List.mem_of_getElem? (l := lw_tbl) (i := 264) (by decide +kernel)) rfl
theorem gm_u265 : Cond.code yX3_haveModel cX3_haveModel 1 (some .boolean) ∈ gm_U := gm_U_in (List.mem_of_getElem? (l := lw_tbl) (i := 265) (by decide +kernel)) rfl
theorem gm_u266 : Cond.methodLink RX3 46 yX3_allowed ∈ gm_U := gm_U_in (List.mem_of_getElem? (l := lw_tbl) (i := 266) (by decide +kernel)) rfl
theorem gm_u267 : Cond.instanceMethod yX3_allowed ∈ gm_U := gm_U_in (List.mem_of_getElem? (l := lw_tbl) (i := 267) (by decide +kernel)) rfl
theorem gm_u268 : Cond.selects RX3 yX3_allowed yX3_allowed ∈ gm_U := gm_U_in (List.mem_of_getElem? (l := lw_tbl) (i := 268) (by decide +kernel)) rfl
theorem gm_u269 : Cond.code yX3_allowed cX3_allowed 3 (some .int) ∈ gm_U := gm_U_in (List.mem_of_getElem? (l := lw_tbl) (i := 269) (by decide +kernel)) rfl
theorem gm_u270 : Cond.constant RX3 33 (65535) ∈ gm_U := gm_U_in (List.mem_of_getElem? (l := lw_tbl) (i := 270) (by decide +kernel)) rfl
theorem gm_u271 : Cond.methodLink RX3 34 yX3_demandsElement ∈ gm_U := gm_U_in (List.mem_of_getElem? (l := lw_tbl) (i := 271) (by decide +kernel)) rfl
theorem gm_u272 : Cond.instanceMethod yX3_demandsElement ∈ gm_U := gm_U_in (List.mem_of_getElem? (l := lw_tbl) (i := 272) (by decide +kernel)) rfl
theorem gm_u273 : Cond.selects RX3 yX3_demandsElement yX3_demandsElement ∈ gm_U := gm_U_in (List.mem_of_getElem? (l := lw_tbl) (i := 273) (by decide +kernel)) rfl
theorem gm_u274 : Cond.code yX3_demandsElement cX3_demandsElement 2 (some .boolean) ∈ gm_U := gm_U_in (List.mem_of_getElem? (l := lw_tbl) (i := 274) (by decide +kernel)) rfl
theorem gm_u275 : Cond.methodLink RX3 38 yX3_placesAt ∈ gm_U := gm_U_in (List.mem_of_getElem? (l := lw_tbl) (i := 275) (by decide +kernel)) rfl
theorem gm_u276 : Cond.instanceMethod yX3_placesAt ∈ gm_U := gm_U_in (List.mem_of_getElem? (l := lw_tbl) (i := 276) (by decide +kernel)) rfl
theorem gm_u277 : Cond.selects RX3 yX3_placesAt yX3_placesAt ∈ gm_U := gm_U_in (List.mem_of_getElem? (l := lw_tbl) (i := 277) (by decide +kernel)) rfl
theorem gm_u278 : Cond.code yX3_placesAt cX3_placesAt 2 (some .int) ∈ gm_U := gm_U_in (List.mem_of_getElem? (l := lw_tbl) (i := 278) (by decide +kernel)) rfl
theorem gm_u279 : Cond.methodLink RX3 50 yX3_firstUnmet ∈ gm_U := gm_U_in (List.mem_of_getElem? (l := lw_tbl) (i := 279) (by decide +kernel)) rfl
theorem gm_u281 : Cond.instanceMethod yX3_firstUnmet ∈ gm_U := gm_U_in (List.mem_of_getElem? (l := lw_tbl) (i := 281) (by decide +kernel)) rfl
theorem gm_u282 : Cond.code yX3_firstUnmet cX3_firstUnmet 3 (some .int) ∈ gm_U := gm_U_in (List.mem_of_getElem? (l := lw_tbl) (i := 282) (by decide +kernel)) rfl
theorem gm_u283 : Cond.methodLink RL 138 yL_letter ∈ gm_U := gm_U_in (List.mem_of_getElem? (l := lw_tbl) (i := 283) (by decide +kernel)) rfl
theorem gm_u284 : Cond.static yL_letter ∈ gm_U := gm_U_in (List.mem_of_getElem? (l := lw_tbl) (i := 284) (by decide +kernel)) rfl
theorem gm_u285 : Cond.codeWith yL_letter cL_letter 4 (some .int) [(0, 9, 12, 13), (0, 9, 15, 15)] ∈ gm_U := gm_U_in (List.mem_of_getElem? (l := lw_tbl) (i := 285) (by decide +kernel)) rfl
theorem gm_u286 : Cond.classLink RL 13 "java/lang/IllegalArgumentException" ∈ gm_U := gm_U_in (List.mem_of_getElem? (l := lw_tbl) (i := 286) (by decide +kernel)) rfl
theorem gm_u287 : Cond.classLink RL 15 "java/lang/IllegalStateException" ∈ gm_U := gm_U_in (List.mem_of_getElem? (l := lw_tbl) (i := 287) (by decide +kernel)) rfl
theorem gm_u288 : Cond.methodLink RL 7 yX6_letter ∈ gm_U := gm_U_in (List.mem_of_getElem? (l := lw_tbl) (i := 288) (by decide +kernel)) rfl
theorem gm_u289 : Cond.instanceMethod yX6_letter ∈ gm_U := gm_U_in (List.mem_of_getElem? (l := lw_tbl) (i := 289) (by decide +kernel)) rfl
theorem gm_u290 : Cond.selects RX6 yX6_letter yX6_letter ∈ gm_U := gm_U_in (List.mem_of_getElem? (l := lw_tbl) (i := 290) (by decide +kernel)) rfl
theorem gm_u291 : Cond.code yX6_letter cX6_letter 2 (some .int) ∈ gm_U := gm_U_in (List.mem_of_getElem? (l := lw_tbl) (i := 291) (by decide +kernel)) rfl
theorem gm_u292 : Cond.methodLink RX6 44 yX6_checkLetter ∈ gm_U := gm_U_in (List.mem_of_getElem? (l := lw_tbl) (i := 292) (by decide +kernel)) rfl
theorem gm_u294 : Cond.instanceMethod yX6_checkLetter ∈ gm_U := gm_U_in (List.mem_of_getElem? (l := lw_tbl) (i := 294) (by decide +kernel)) rfl
theorem gm_u295 : Cond.code yX6_checkLetter cX6_checkLetter 2 none ∈ gm_U := gm_U_in (List.mem_of_getElem? (l := lw_tbl) (i := 295) (by decide +kernel)) rfl
theorem gm_u296 : Cond.classLink RX6 94 "java/lang/IllegalArgumentException" ∈ gm_U := gm_U_in (List.mem_of_getElem? (l := lw_tbl) (i := 296) (by decide +kernel)) rfl
theorem gm_u366 : Cond.methodLink RX6 48 yX4_make ∈ gm_U := gm_U_in (List.mem_of_getElem? (l := lw_tbl) (i := 366) (by decide +kernel)) rfl
theorem gm_u367 : Cond.instanceMethod yX4_make ∈ gm_U := gm_U_in (List.mem_of_getElem? (l := lw_tbl) (i := 367) (by decide +kernel)) rfl
theorem gm_u368 : Cond.selects RX4 yX4_make yX4_make ∈ gm_U := gm_U_in (List.mem_of_getElem? (l := lw_tbl) (i := 368) (by decide +kernel)) rfl
theorem gm_u369 : Cond.code yX4_make cX4_make 7 (some .int) ∈ gm_U := gm_U_in (List.mem_of_getElem? (l := lw_tbl) (i := 369) (by decide +kernel)) rfl
theorem gm_u370 : Cond.methodLink RX4 50 yX4_find ∈ gm_U := gm_U_in (List.mem_of_getElem? (l := lw_tbl) (i := 370) (by decide +kernel)) rfl
theorem gm_u372 : Cond.instanceMethod yX4_find ∈ gm_U := gm_U_in (List.mem_of_getElem? (l := lw_tbl) (i := 372) (by decide +kernel)) rfl
theorem gm_u373 : Cond.code yX4_find cX4_find 5 (some .int) ∈ gm_U := gm_U_in (List.mem_of_getElem? (l := lw_tbl) (i := 373) (by decide +kernel)) rfl
theorem gm_u374 : Cond.methodLink RX4 40 yX4_sizeOf ∈ gm_U := gm_U_in (List.mem_of_getElem? (l := lw_tbl) (i := 374) (by decide +kernel)) rfl
theorem gm_u375 : Cond.instanceMethod yX4_sizeOf ∈ gm_U := gm_U_in (List.mem_of_getElem? (l := lw_tbl) (i := 375) (by decide +kernel)) rfl
theorem gm_u376 : Cond.selects RX4 yX4_sizeOf yX4_sizeOf ∈ gm_U := gm_U_in (List.mem_of_getElem? (l := lw_tbl) (i := 376) (by decide +kernel)) rfl
theorem gm_u377 : Cond.code yX4_sizeOf cX4_sizeOf 2 (some .int) ∈ gm_U := gm_U_in (List.mem_of_getElem? (l := lw_tbl) (i := 377) (by decide +kernel)) rfl
theorem gm_u378 : Cond.methodLink RX4 32 yX4_isKnown ∈ gm_U := gm_U_in (List.mem_of_getElem? (l := lw_tbl) (i := 378) (by decide +kernel)) rfl
theorem gm_u379 : Cond.instanceMethod yX4_isKnown ∈ gm_U := gm_U_in (List.mem_of_getElem? (l := lw_tbl) (i := 379) (by decide +kernel)) rfl
theorem gm_u380 : Cond.selects RX4 yX4_isKnown yX4_isKnown ∈ gm_U := gm_U_in (List.mem_of_getElem? (l := lw_tbl) (i := 380) (by decide +kernel)) rfl
theorem gm_u381 : Cond.code yX4_isKnown cX4_isKnown 2 (some .boolean) ∈ gm_U := gm_U_in (List.mem_of_getElem? (l := lw_tbl) (i := 381) (by decide +kernel)) rfl
theorem gm_u382 : Cond.methodLink RX4 54 yX4_coverOf ∈ gm_U := gm_U_in (List.mem_of_getElem? (l := lw_tbl) (i := 382) (by decide +kernel)) rfl
theorem gm_u383 : Cond.instanceMethod yX4_coverOf ∈ gm_U := gm_U_in (List.mem_of_getElem? (l := lw_tbl) (i := 383) (by decide +kernel)) rfl
theorem gm_u384 : Cond.selects RX4 yX4_coverOf yX4_coverOf ∈ gm_U := gm_U_in (List.mem_of_getElem? (l := lw_tbl) (i := 384) (by decide +kernel)) rfl
theorem gm_u385 : Cond.code yX4_coverOf cX4_coverOf 2 (some .int) ∈ gm_U := gm_U_in (List.mem_of_getElem? (l := lw_tbl) (i := 385) (by decide +kernel)) rfl
theorem gm_u386 : Cond.methodLink RX4 57 yX4_coverFrom ∈ gm_U := gm_U_in (List.mem_of_getElem? (l := lw_tbl) (i := 386) (by decide +kernel)) rfl
theorem gm_u387 : Cond.static yX4_coverFrom ∈ gm_U := gm_U_in (List.mem_of_getElem? (l := lw_tbl) (i := 387) (by decide +kernel)) rfl
theorem gm_u388 : Cond.code yX4_coverFrom cX4_coverFrom 3 (some .int) ∈ gm_U := gm_U_in (List.mem_of_getElem? (l := lw_tbl) (i := 388) (by decide +kernel)) rfl
theorem gm_u389 : Cond.constant RX4 60 (43690) ∈ gm_U := gm_U_in (List.mem_of_getElem? (l := lw_tbl) (i := 389) (by decide +kernel)) rfl
theorem gm_u390 : Cond.constant RX4 61 (52428) ∈ gm_U := gm_U_in (List.mem_of_getElem? (l := lw_tbl) (i := 390) (by decide +kernel)) rfl
theorem gm_u391 : Cond.constant RX4 62 (61680) ∈ gm_U := gm_U_in (List.mem_of_getElem? (l := lw_tbl) (i := 391) (by decide +kernel)) rfl
theorem gm_u392 : Cond.constant RX4 63 (65280) ∈ gm_U := gm_U_in (List.mem_of_getElem? (l := lw_tbl) (i := 392) (by decide +kernel)) rfl
theorem gm_u393 : Cond.constant RX4 64 (65535) ∈ gm_U := gm_U_in (List.mem_of_getElem? (l := lw_tbl) (i := 393) (by decide +kernel)) rfl
theorem gm_u394 : Cond.methodLink RX6 52 yX6_madeOrThrow ∈ gm_U := gm_U_in (List.mem_of_getElem? (l := lw_tbl) (i := 394) (by decide +kernel)) rfl
theorem gm_u396 : Cond.instanceMethod yX6_madeOrThrow ∈ gm_U := gm_U_in (List.mem_of_getElem? (l := lw_tbl) (i := 396) (by decide +kernel)) rfl
theorem gm_u397 : Cond.code yX6_madeOrThrow cX6_madeOrThrow 2 (some .int) ∈ gm_U := gm_U_in (List.mem_of_getElem? (l := lw_tbl) (i := 397) (by decide +kernel)) rfl
theorem gm_u398 : Cond.classLink RX6 80 "java/lang/IllegalStateException" ∈ gm_U := gm_U_in (List.mem_of_getElem? (l := lw_tbl) (i := 398) (by decide +kernel)) rfl
theorem gm_u414 : Cond.methodLink RL 147 yL_empty ∈ gm_U := gm_U_in (List.mem_of_getElem? (l := lw_tbl) (i := 414) (by decide +kernel)) rfl
theorem gm_u415 : Cond.static yL_empty ∈ gm_U := gm_U_in (List.mem_of_getElem? (l := lw_tbl) (i := 415) (by decide +kernel)) rfl
theorem gm_u416 : Cond.codeWith yL_empty cL_empty 3 (some .int) [(0, 8, 11, 15)] ∈ gm_U := gm_U_in (List.mem_of_getElem? (l := lw_tbl) (i := 416) (by decide +kernel)) rfl
theorem gm_u417 : Cond.methodLink RL 17 yX6_empty ∈ gm_U := gm_U_in (List.mem_of_getElem? (l := lw_tbl) (i := 417) (by decide +kernel)) rfl
theorem gm_u418 : Cond.instanceMethod yX6_empty ∈ gm_U := gm_U_in (List.mem_of_getElem? (l := lw_tbl) (i := 418) (by decide +kernel)) rfl
theorem gm_u419 : Cond.selects RX6 yX6_empty yX6_empty ∈ gm_U := gm_U_in (List.mem_of_getElem? (l := lw_tbl) (i := 419) (by decide +kernel)) rfl
theorem gm_u420 : Cond.code yX6_empty cX6_empty 1 (some .int) ∈ gm_U := gm_U_in (List.mem_of_getElem? (l := lw_tbl) (i := 420) (by decide +kernel)) rfl
theorem gm_u421 : Cond.methodLink RL 151 yL_universe ∈ gm_U := gm_U_in (List.mem_of_getElem? (l := lw_tbl) (i := 421) (by decide +kernel)) rfl
theorem gm_u422 : Cond.static yL_universe ∈ gm_U := gm_U_in (List.mem_of_getElem? (l := lw_tbl) (i := 422) (by decide +kernel)) rfl
theorem gm_u423 : Cond.codeWith yL_universe cL_universe 3 (some .int) [(0, 8, 11, 15)] ∈ gm_U := gm_U_in (List.mem_of_getElem? (l := lw_tbl) (i := 423) (by decide +kernel)) rfl
theorem gm_u424 : Cond.methodLink RL 21 yX6_universe ∈ gm_U := gm_U_in (List.mem_of_getElem? (l := lw_tbl) (i := 424) (by decide +kernel)) rfl
theorem gm_u425 : Cond.instanceMethod yX6_universe ∈ gm_U := gm_U_in (List.mem_of_getElem? (l := lw_tbl) (i := 425) (by decide +kernel)) rfl
theorem gm_u426 : Cond.selects RX6 yX6_universe yX6_universe ∈ gm_U := gm_U_in (List.mem_of_getElem? (l := lw_tbl) (i := 426) (by decide +kernel)) rfl
theorem gm_u427 : Cond.code yX6_universe cX6_universe 1 (some .int) ∈ gm_U := gm_U_in (List.mem_of_getElem? (l := lw_tbl) (i := 427) (by decide +kernel)) rfl
theorem gm_u428 : Cond.methodLink RL 154 yL_complement ∈ gm_U := gm_U_in (List.mem_of_getElem? (l := lw_tbl) (i := 428) (by decide +kernel)) rfl
theorem gm_u429 : Cond.static yL_complement ∈ gm_U := gm_U_in (List.mem_of_getElem? (l := lw_tbl) (i := 429) (by decide +kernel)) rfl
theorem gm_u430 : Cond.codeWith yL_complement cL_complement 4 (some .int) [(0, 9, 12, 27), (0, 9, 15, 15)] ∈ gm_U := gm_U_in (List.mem_of_getElem? (l := lw_tbl) (i := 430) (by decide +kernel)) rfl
theorem gm_u431 : Cond.classLink RL 27 "java/lang/IndexOutOfBoundsException" ∈ gm_U := gm_U_in (List.mem_of_getElem? (l := lw_tbl) (i := 431) (by decide +kernel)) rfl
theorem gm_u432 : Cond.methodLink RL 24 yX6_complement ∈ gm_U := gm_U_in (List.mem_of_getElem? (l := lw_tbl) (i := 432) (by decide +kernel)) rfl
theorem gm_u433 : Cond.instanceMethod yX6_complement ∈ gm_U := gm_U_in (List.mem_of_getElem? (l := lw_tbl) (i := 433) (by decide +kernel)) rfl
theorem gm_u434 : Cond.selects RX6 yX6_complement yX6_complement ∈ gm_U := gm_U_in (List.mem_of_getElem? (l := lw_tbl) (i := 434) (by decide +kernel)) rfl
theorem gm_u435 : Cond.code yX6_complement cX6_complement 2 (some .int) ∈ gm_U := gm_U_in (List.mem_of_getElem? (l := lw_tbl) (i := 435) (by decide +kernel)) rfl
theorem gm_u436 : Cond.methodLink RX6 56 yX6_checkTerm ∈ gm_U := gm_U_in (List.mem_of_getElem? (l := lw_tbl) (i := 436) (by decide +kernel)) rfl
theorem gm_u438 : Cond.instanceMethod yX6_checkTerm ∈ gm_U := gm_U_in (List.mem_of_getElem? (l := lw_tbl) (i := 438) (by decide +kernel)) rfl
theorem gm_u439 : Cond.code yX6_checkTerm cX6_checkTerm 2 none ∈ gm_U := gm_U_in (List.mem_of_getElem? (l := lw_tbl) (i := 439) (by decide +kernel)) rfl
theorem gm_u440 : Cond.methodLink RX6 85 yX4_isKnown ∈ gm_U := gm_U_in (List.mem_of_getElem? (l := lw_tbl) (i := 440) (by decide +kernel)) rfl
theorem gm_u441 : Cond.classLink RX6 89 "java/lang/IndexOutOfBoundsException" ∈ gm_U := gm_U_in (List.mem_of_getElem? (l := lw_tbl) (i := 441) (by decide +kernel)) rfl
theorem gm_u457 : Cond.methodLink RL 157 yL_union ∈ gm_U := gm_U_in (List.mem_of_getElem? (l := lw_tbl) (i := 457) (by decide +kernel)) rfl
theorem gm_u458 : Cond.static yL_union ∈ gm_U := gm_U_in (List.mem_of_getElem? (l := lw_tbl) (i := 458) (by decide +kernel)) rfl
theorem gm_u459 : Cond.codeWith yL_union cL_union 5 (some .int) [(0, 10, 13, 27), (0, 10, 17, 15)] ∈ gm_U := gm_U_in (List.mem_of_getElem? (l := lw_tbl) (i := 459) (by decide +kernel)) rfl
theorem gm_u460 : Cond.methodLink RL 29 yX6_union ∈ gm_U := gm_U_in (List.mem_of_getElem? (l := lw_tbl) (i := 460) (by decide +kernel)) rfl
theorem gm_u461 : Cond.instanceMethod yX6_union ∈ gm_U := gm_U_in (List.mem_of_getElem? (l := lw_tbl) (i := 461) (by decide +kernel)) rfl
theorem gm_u462 : Cond.selects RX6 yX6_union yX6_union ∈ gm_U := gm_U_in (List.mem_of_getElem? (l := lw_tbl) (i := 462) (by decide +kernel)) rfl
theorem gm_u463 : Cond.code yX6_union cX6_union 3 (some .int) ∈ gm_U := gm_U_in (List.mem_of_getElem? (l := lw_tbl) (i := 463) (by decide +kernel)) rfl
theorem gm_u464 : Cond.methodLink RX6 59 yX6_makePair ∈ gm_U := gm_U_in (List.mem_of_getElem? (l := lw_tbl) (i := 464) (by decide +kernel)) rfl
theorem gm_u466 : Cond.instanceMethod yX6_makePair ∈ gm_U := gm_U_in (List.mem_of_getElem? (l := lw_tbl) (i := 466) (by decide +kernel)) rfl
theorem gm_u467 : Cond.code yX6_makePair cX6_makePair 4 (some .int) ∈ gm_U := gm_U_in (List.mem_of_getElem? (l := lw_tbl) (i := 467) (by decide +kernel)) rfl
theorem gm_u468 : Cond.methodLink RL 161 yL_intersection ∈ gm_U := gm_U_in (List.mem_of_getElem? (l := lw_tbl) (i := 468) (by decide +kernel)) rfl
theorem gm_u469 : Cond.static yL_intersection ∈ gm_U := gm_U_in (List.mem_of_getElem? (l := lw_tbl) (i := 469) (by decide +kernel)) rfl
theorem gm_u470 : Cond.codeWith yL_intersection cL_intersection 5 (some .int) [(0, 10, 13, 27), (0, 10, 17, 15)] ∈ gm_U := gm_U_in (List.mem_of_getElem? (l := lw_tbl) (i := 470) (by decide +kernel)) rfl
theorem gm_u471 : Cond.methodLink RL 33 yX6_intersection ∈ gm_U := gm_U_in (List.mem_of_getElem? (l := lw_tbl) (i := 471) (by decide +kernel)) rfl
theorem gm_u472 : Cond.instanceMethod yX6_intersection ∈ gm_U := gm_U_in (List.mem_of_getElem? (l := lw_tbl) (i := 472) (by decide +kernel)) rfl
theorem gm_u473 : Cond.selects RX6 yX6_intersection yX6_intersection ∈ gm_U := gm_U_in (List.mem_of_getElem? (l := lw_tbl) (i := 473) (by decide +kernel)) rfl
theorem gm_u474 : Cond.code yX6_intersection cX6_intersection 3 (some .int) ∈ gm_U := gm_U_in (List.mem_of_getElem? (l := lw_tbl) (i := 474) (by decide +kernel)) rfl
theorem gm_u475 : Cond.methodLink RL 164 yL_difference ∈ gm_U := gm_U_in (List.mem_of_getElem? (l := lw_tbl) (i := 475) (by decide +kernel)) rfl
theorem gm_u476 : Cond.static yL_difference ∈ gm_U := gm_U_in (List.mem_of_getElem? (l := lw_tbl) (i := 476) (by decide +kernel)) rfl
theorem gm_u477 : Cond.codeWith yL_difference cL_difference 5 (some .int) [(0, 10, 13, 27), (0, 10, 17, 15)] ∈ gm_U := gm_U_in (List.mem_of_getElem? (l := lw_tbl) (i := 477) (by decide +kernel)) rfl
theorem gm_u478 : Cond.methodLink RL 36 yX6_difference ∈ gm_U := gm_U_in (List.mem_of_getElem? (l := lw_tbl) (i := 478) (by decide +kernel)) rfl
theorem gm_u479 : Cond.instanceMethod yX6_difference ∈ gm_U := gm_U_in (List.mem_of_getElem? (l := lw_tbl) (i := 479) (by decide +kernel)) rfl
theorem gm_u480 : Cond.selects RX6 yX6_difference yX6_difference ∈ gm_U := gm_U_in (List.mem_of_getElem? (l := lw_tbl) (i := 480) (by decide +kernel)) rfl
theorem gm_u481 : Cond.code yX6_difference cX6_difference 3 (some .int) ∈ gm_U := gm_U_in (List.mem_of_getElem? (l := lw_tbl) (i := 481) (by decide +kernel)) rfl
theorem gm_u482 : Cond.methodLink RL 167 yL_symmetric ∈ gm_U := gm_U_in (List.mem_of_getElem? (l := lw_tbl) (i := 482) (by decide +kernel)) rfl
theorem gm_u483 : Cond.static yL_symmetric ∈ gm_U := gm_U_in (List.mem_of_getElem? (l := lw_tbl) (i := 483) (by decide +kernel)) rfl
theorem gm_u484 : Cond.codeWith yL_symmetric cL_symmetric 5 (some .int) [(0, 10, 13, 27), (0, 10, 17, 15)] ∈ gm_U := gm_U_in (List.mem_of_getElem? (l := lw_tbl) (i := 484) (by decide +kernel)) rfl
theorem gm_u485 : Cond.methodLink RL 39 yX6_symmetric ∈ gm_U := gm_U_in (List.mem_of_getElem? (l := lw_tbl) (i := 485) (by decide +kernel)) rfl
theorem gm_u486 : Cond.instanceMethod yX6_symmetric ∈ gm_U := gm_U_in (List.mem_of_getElem? (l := lw_tbl) (i := 486) (by decide +kernel)) rfl
theorem gm_u487 : Cond.selects RX6 yX6_symmetric yX6_symmetric ∈ gm_U := gm_U_in (List.mem_of_getElem? (l := lw_tbl) (i := 487) (by decide +kernel)) rfl
theorem gm_u488 : Cond.code yX6_symmetric cX6_symmetric 3 (some .int) ∈ gm_U := gm_U_in (List.mem_of_getElem? (l := lw_tbl) (i := 488) (by decide +kernel)) rfl
theorem gm_u489 : Cond.methodLink RL 174 yL_size ∈ gm_U := gm_U_in (List.mem_of_getElem? (l := lw_tbl) (i := 489) (by decide +kernel)) rfl
theorem gm_u490 : Cond.static yL_size ∈ gm_U := gm_U_in (List.mem_of_getElem? (l := lw_tbl) (i := 490) (by decide +kernel)) rfl
theorem gm_u491 : Cond.codeWith yL_size cL_size 4 (some .int) [(0, 9, 12, 27)] ∈ gm_U := gm_U_in (List.mem_of_getElem? (l := lw_tbl) (i := 491) (by decide +kernel)) rfl
theorem gm_u492 : Cond.methodLink RL 42 yX6_size ∈ gm_U := gm_U_in (List.mem_of_getElem? (l := lw_tbl) (i := 492) (by decide +kernel)) rfl
theorem gm_u493 : Cond.instanceMethod yX6_size ∈ gm_U := gm_U_in (List.mem_of_getElem? (l := lw_tbl) (i := 493) (by decide +kernel)) rfl
theorem gm_u494 : Cond.selects RX6 yX6_size yX6_size ∈ gm_U := gm_U_in (List.mem_of_getElem? (l := lw_tbl) (i := 494) (by decide +kernel)) rfl
theorem gm_u495 : Cond.code yX6_size cX6_size 2 (some .int) ∈ gm_U := gm_U_in (List.mem_of_getElem? (l := lw_tbl) (i := 495) (by decide +kernel)) rfl
theorem gm_u496 : Cond.methodLink RX6 66 yX4_sizeOf ∈ gm_U := gm_U_in (List.mem_of_getElem? (l := lw_tbl) (i := 496) (by decide +kernel)) rfl
theorem gm_u497 : Cond.methodLink RL 177 yL_symbol ∈ gm_U := gm_U_in (List.mem_of_getElem? (l := lw_tbl) (i := 497) (by decide +kernel)) rfl
theorem gm_u498 : Cond.static yL_symbol ∈ gm_U := gm_U_in (List.mem_of_getElem? (l := lw_tbl) (i := 498) (by decide +kernel)) rfl
theorem gm_u499 : Cond.codeWith yL_symbol cL_symbol 5 (some .int) [(0, 10, 13, 27), (0, 10, 17, 49)] ∈ gm_U := gm_U_in (List.mem_of_getElem? (l := lw_tbl) (i := 499) (by decide +kernel)) rfl
theorem gm_u500 : Cond.classLink RL 49 "java/util/NoSuchElementException" ∈ gm_U := gm_U_in (List.mem_of_getElem? (l := lw_tbl) (i := 500) (by decide +kernel)) rfl
theorem gm_u501 : Cond.methodLink RL 45 yX6_symbol ∈ gm_U := gm_U_in (List.mem_of_getElem? (l := lw_tbl) (i := 501) (by decide +kernel)) rfl
theorem gm_u502 : Cond.instanceMethod yX6_symbol ∈ gm_U := gm_U_in (List.mem_of_getElem? (l := lw_tbl) (i := 502) (by decide +kernel)) rfl
theorem gm_u503 : Cond.selects RX6 yX6_symbol yX6_symbol ∈ gm_U := gm_U_in (List.mem_of_getElem? (l := lw_tbl) (i := 503) (by decide +kernel)) rfl
theorem gm_u504 : Cond.code yX6_symbol cX6_symbol 3 (some .char) ∈ gm_U := gm_U_in (List.mem_of_getElem? (l := lw_tbl) (i := 504) (by decide +kernel)) rfl
theorem gm_u505 : Cond.classLink RX6 69 "java/util/NoSuchElementException" ∈ gm_U := gm_U_in (List.mem_of_getElem? (l := lw_tbl) (i := 505) (by decide +kernel)) rfl
theorem gm_u521 : Cond.methodLink RX6 76 yX4_symbolOf ∈ gm_U := gm_U_in (List.mem_of_getElem? (l := lw_tbl) (i := 521) (by decide +kernel)) rfl
theorem gm_u522 : Cond.instanceMethod yX4_symbolOf ∈ gm_U := gm_U_in (List.mem_of_getElem? (l := lw_tbl) (i := 522) (by decide +kernel)) rfl
theorem gm_u523 : Cond.selects RX4 yX4_symbolOf yX4_symbolOf ∈ gm_U := gm_U_in (List.mem_of_getElem? (l := lw_tbl) (i := 523) (by decide +kernel)) rfl
theorem gm_u524 : Cond.code yX4_symbolOf cX4_symbolOf 9 (some .char) ∈ gm_U := gm_U_in (List.mem_of_getElem? (l := lw_tbl) (i := 524) (by decide +kernel)) rfl
theorem gm_u525 : Cond.methodLink RX4 36 yX4_leftOf ∈ gm_U := gm_U_in (List.mem_of_getElem? (l := lw_tbl) (i := 525) (by decide +kernel)) rfl
theorem gm_u527 : Cond.instanceMethod yX4_leftOf ∈ gm_U := gm_U_in (List.mem_of_getElem? (l := lw_tbl) (i := 527) (by decide +kernel)) rfl
theorem gm_u528 : Cond.code yX4_leftOf cX4_leftOf 2 (some .int) ∈ gm_U := gm_U_in (List.mem_of_getElem? (l := lw_tbl) (i := 528) (by decide +kernel)) rfl
theorem gm_u529 : Cond.methodLink RX4 43 yX4_rightOf ∈ gm_U := gm_U_in (List.mem_of_getElem? (l := lw_tbl) (i := 529) (by decide +kernel)) rfl
theorem gm_u531 : Cond.instanceMethod yX4_rightOf ∈ gm_U := gm_U_in (List.mem_of_getElem? (l := lw_tbl) (i := 531) (by decide +kernel)) rfl
theorem gm_u532 : Cond.code yX4_rightOf cX4_rightOf 2 (some .int) ∈ gm_U := gm_U_in (List.mem_of_getElem? (l := lw_tbl) (i := 532) (by decide +kernel)) rfl
theorem gm_u533 : Cond.methodLink RX4 46 yX4_headOf ∈ gm_U := gm_U_in (List.mem_of_getElem? (l := lw_tbl) (i := 533) (by decide +kernel)) rfl
theorem gm_u535 : Cond.instanceMethod yX4_headOf ∈ gm_U := gm_U_in (List.mem_of_getElem? (l := lw_tbl) (i := 535) (by decide +kernel)) rfl
theorem gm_u536 : Cond.code yX4_headOf cX4_headOf 2 (some .char) ∈ gm_U := gm_U_in (List.mem_of_getElem? (l := lw_tbl) (i := 536) (by decide +kernel)) rfl
theorem gm_u537 : Cond.methodLink RL 180 yL_regions ∈ gm_U := gm_U_in (List.mem_of_getElem? (l := lw_tbl) (i := 537) (by decide +kernel)) rfl
theorem gm_u538 : Cond.static yL_regions ∈ gm_U := gm_U_in (List.mem_of_getElem? (l := lw_tbl) (i := 538) (by decide +kernel)) rfl
theorem gm_u539 : Cond.codeWith yL_regions cL_regions 4 (some .int) [(0, 9, 12, 27)] ∈ gm_U := gm_U_in (List.mem_of_getElem? (l := lw_tbl) (i := 539) (by decide +kernel)) rfl
theorem gm_u540 : Cond.methodLink RL 51 yX6_regions ∈ gm_U := gm_U_in (List.mem_of_getElem? (l := lw_tbl) (i := 540) (by decide +kernel)) rfl
theorem gm_u541 : Cond.instanceMethod yX6_regions ∈ gm_U := gm_U_in (List.mem_of_getElem? (l := lw_tbl) (i := 541) (by decide +kernel)) rfl
theorem gm_u542 : Cond.selects RX6 yX6_regions yX6_regions ∈ gm_U := gm_U_in (List.mem_of_getElem? (l := lw_tbl) (i := 542) (by decide +kernel)) rfl
theorem gm_u543 : Cond.code yX6_regions cX6_regions 2 (some .int) ∈ gm_U := gm_U_in (List.mem_of_getElem? (l := lw_tbl) (i := 543) (by decide +kernel)) rfl
theorem gm_u544 : Cond.methodLink RX6 101 yX4_coverOf ∈ gm_U := gm_U_in (List.mem_of_getElem? (l := lw_tbl) (i := 544) (by decide +kernel)) rfl
theorem gm_u545 : Cond.methodLink RX6 104 yJ6_bitCount_0f7a4 ∈ gm_U := gm_U_in (List.mem_of_getElem? (l := lw_tbl) (i := 545) (by decide +kernel)) rfl
theorem gm_u546 : Cond.static yJ6_bitCount_0f7a4 ∈ gm_U := gm_U_in (List.mem_of_getElem? (l := lw_tbl) (i := 546) (by decide +kernel)) rfl
theorem gm_u547 : Cond.code yJ6_bitCount_0f7a4 cJ6_bitCount_0f7a4 1 (some .int) ∈ gm_U := gm_U_in (List.mem_of_getElem? (l := lw_tbl) (i := 547) (by decide +kernel)) rfl
theorem gm_u548 : Cond.constant RJ6 265 (1431655765) ∈ gm_U := gm_U_in (List.mem_of_getElem? (l := lw_tbl) (i := 548) (by decide +kernel)) rfl
theorem gm_u549 : Cond.constant RJ6 266 (858993459) ∈ gm_U := gm_U_in (List.mem_of_getElem? (l := lw_tbl) (i := 549) (by decide +kernel)) rfl
theorem gm_u550 : Cond.constant RJ6 267 (252645135) ∈ gm_U := gm_U_in (List.mem_of_getElem? (l := lw_tbl) (i := 550) (by decide +kernel)) rfl
theorem gm_u551 : Cond.methodLink RL 183 yL_covers ∈ gm_U := gm_U_in (List.mem_of_getElem? (l := lw_tbl) (i := 551) (by decide +kernel)) rfl
theorem gm_u552 : Cond.static yL_covers ∈ gm_U := gm_U_in (List.mem_of_getElem? (l := lw_tbl) (i := 552) (by decide +kernel)) rfl
theorem gm_u553 : Cond.codeWith yL_covers cL_covers 5 (some .int) [(0, 17, 20, 27), (0, 17, 24, 13)] ∈ gm_U := gm_U_in (List.mem_of_getElem? (l := lw_tbl) (i := 553) (by decide +kernel)) rfl
theorem gm_u554 : Cond.methodLink RL 54 yX6_covers ∈ gm_U := gm_U_in (List.mem_of_getElem? (l := lw_tbl) (i := 554) (by decide +kernel)) rfl
theorem gm_u555 : Cond.instanceMethod yX6_covers ∈ gm_U := gm_U_in (List.mem_of_getElem? (l := lw_tbl) (i := 555) (by decide +kernel)) rfl
theorem gm_u556 : Cond.selects RX6 yX6_covers yX6_covers ∈ gm_U := gm_U_in (List.mem_of_getElem? (l := lw_tbl) (i := 556) (by decide +kernel)) rfl
theorem gm_u557 : Cond.code yX6_covers cX6_covers 3 (some .boolean) ∈ gm_U := gm_U_in (List.mem_of_getElem? (l := lw_tbl) (i := 557) (by decide +kernel)) rfl
theorem gm_u558 : Cond.methodLink RX6 109 yX6_checkRegion ∈ gm_U := gm_U_in (List.mem_of_getElem? (l := lw_tbl) (i := 558) (by decide +kernel)) rfl
theorem gm_u560 : Cond.instanceMethod yX6_checkRegion ∈ gm_U := gm_U_in (List.mem_of_getElem? (l := lw_tbl) (i := 560) (by decide +kernel)) rfl
theorem gm_u561 : Cond.code yX6_checkRegion cX6_checkRegion 2 none ∈ gm_U := gm_U_in (List.mem_of_getElem? (l := lw_tbl) (i := 561) (by decide +kernel)) rfl
theorem gm_u563 : Cond.methodLink RX6 112 yX6_isIn ∈ gm_U := gm_U_in (List.mem_of_getElem? (l := lw_tbl) (i := 563) (by decide +kernel)) rfl
theorem gm_u564 : Cond.methodLink RL 186 yL_coversByTerm ∈ gm_U := gm_U_in (List.mem_of_getElem? (l := lw_tbl) (i := 564) (by decide +kernel)) rfl
theorem gm_u565 : Cond.static yL_coversByTerm ∈ gm_U := gm_U_in (List.mem_of_getElem? (l := lw_tbl) (i := 565) (by decide +kernel)) rfl
theorem gm_u566 : Cond.codeWith yL_coversByTerm cL_coversByTerm 5 (some .int) [(0, 17, 20, 27), (0, 17, 24, 13)] ∈ gm_U := gm_U_in (List.mem_of_getElem? (l := lw_tbl) (i := 566) (by decide +kernel)) rfl
theorem gm_u567 : Cond.methodLink RL 58 yX6_coversByTerm ∈ gm_U := gm_U_in (List.mem_of_getElem? (l := lw_tbl) (i := 567) (by decide +kernel)) rfl
theorem gm_u568 : Cond.instanceMethod yX6_coversByTerm ∈ gm_U := gm_U_in (List.mem_of_getElem? (l := lw_tbl) (i := 568) (by decide +kernel)) rfl
theorem gm_u569 : Cond.selects RX6 yX6_coversByTerm yX6_coversByTerm ∈ gm_U := gm_U_in (List.mem_of_getElem? (l := lw_tbl) (i := 569) (by decide +kernel)) rfl
theorem gm_u570 : Cond.code yX6_coversByTerm cX6_coversByTerm 3 (some .boolean) ∈ gm_U := gm_U_in (List.mem_of_getElem? (l := lw_tbl) (i := 570) (by decide +kernel)) rfl
theorem gm_u571 : Cond.methodLink RX6 116 yX4_reaches ∈ gm_U := gm_U_in (List.mem_of_getElem? (l := lw_tbl) (i := 571) (by decide +kernel)) rfl
theorem gm_u572 : Cond.instanceMethod yX4_reaches ∈ gm_U := gm_U_in (List.mem_of_getElem? (l := lw_tbl) (i := 572) (by decide +kernel)) rfl
theorem gm_u573 : Cond.selects RX4 yX4_reaches yX4_reaches ∈ gm_U := gm_U_in (List.mem_of_getElem? (l := lw_tbl) (i := 573) (by decide +kernel)) rfl
theorem gm_u574 : Cond.code yX4_reaches cX4_reaches 3 (some .boolean) ∈ gm_U := gm_U_in (List.mem_of_getElem? (l := lw_tbl) (i := 574) (by decide +kernel)) rfl
theorem gm_u575 : Cond.methodLink RX4 85 yX4_reachesBelow ∈ gm_U := gm_U_in (List.mem_of_getElem? (l := lw_tbl) (i := 575) (by decide +kernel)) rfl
theorem gm_u577 : Cond.instanceMethod yX4_reachesBelow ∈ gm_U := gm_U_in (List.mem_of_getElem? (l := lw_tbl) (i := 577) (by decide +kernel)) rfl
theorem gm_u578 : Cond.code yX4_reachesBelow cX4_reachesBelow 7 (some .boolean) ∈ gm_U := gm_U_in (List.mem_of_getElem? (l := lw_tbl) (i := 578) (by decide +kernel)) rfl
theorem gm_u580 : Cond.methodLink RL 189 yL_isEqual ∈ gm_U := gm_U_in (List.mem_of_getElem? (l := lw_tbl) (i := 580) (by decide +kernel)) rfl
theorem gm_u581 : Cond.static yL_isEqual ∈ gm_U := gm_U_in (List.mem_of_getElem? (l := lw_tbl) (i := 581) (by decide +kernel)) rfl
theorem gm_u582 : Cond.codeWith yL_isEqual cL_isEqual 5 (some .int) [(0, 17, 20, 27)] ∈ gm_U := gm_U_in (List.mem_of_getElem? (l := lw_tbl) (i := 582) (by decide +kernel)) rfl
theorem gm_u583 : Cond.methodLink RL 61 yX6_isEqual ∈ gm_U := gm_U_in (List.mem_of_getElem? (l := lw_tbl) (i := 583) (by decide +kernel)) rfl
theorem gm_u584 : Cond.instanceMethod yX6_isEqual ∈ gm_U := gm_U_in (List.mem_of_getElem? (l := lw_tbl) (i := 584) (by decide +kernel)) rfl
theorem gm_u585 : Cond.selects RX6 yX6_isEqual yX6_isEqual ∈ gm_U := gm_U_in (List.mem_of_getElem? (l := lw_tbl) (i := 585) (by decide +kernel)) rfl
theorem gm_u586 : Cond.code yX6_isEqual cX6_isEqual 3 (some .boolean) ∈ gm_U := gm_U_in (List.mem_of_getElem? (l := lw_tbl) (i := 586) (by decide +kernel)) rfl
theorem gm_u587 : Cond.methodLink RL 192 yL_rule ∈ gm_U := gm_U_in (List.mem_of_getElem? (l := lw_tbl) (i := 587) (by decide +kernel)) rfl
theorem gm_u588 : Cond.static yL_rule ∈ gm_U := gm_U_in (List.mem_of_getElem? (l := lw_tbl) (i := 588) (by decide +kernel)) rfl
theorem gm_u589 : Cond.codeWith yL_rule cL_rule 4 (some .int) [(0, 9, 12, 27), (0, 9, 15, 49)] ∈ gm_U := gm_U_in (List.mem_of_getElem? (l := lw_tbl) (i := 589) (by decide +kernel)) rfl
theorem gm_u590 : Cond.methodLink RL 64 yX6_rule ∈ gm_U := gm_U_in (List.mem_of_getElem? (l := lw_tbl) (i := 590) (by decide +kernel)) rfl
theorem gm_u591 : Cond.instanceMethod yX6_rule ∈ gm_U := gm_U_in (List.mem_of_getElem? (l := lw_tbl) (i := 591) (by decide +kernel)) rfl
theorem gm_u592 : Cond.selects RX6 yX6_rule yX6_rule ∈ gm_U := gm_U_in (List.mem_of_getElem? (l := lw_tbl) (i := 592) (by decide +kernel)) rfl
theorem gm_u593 : Cond.code yX6_rule cX6_rule 2 (some .char) ∈ gm_U := gm_U_in (List.mem_of_getElem? (l := lw_tbl) (i := 593) (by decide +kernel)) rfl
theorem gm_u594 : Cond.methodLink RX6 119 yX1_load ∈ gm_U := gm_U_in (List.mem_of_getElem? (l := lw_tbl) (i := 594) (by decide +kernel)) rfl
theorem gm_u595 : Cond.instanceMethod yX1_load ∈ gm_U := gm_U_in (List.mem_of_getElem? (l := lw_tbl) (i := 595) (by decide +kernel)) rfl
theorem gm_u596 : Cond.selects RX1 yX1_load yX1_load ∈ gm_U := gm_U_in (List.mem_of_getElem? (l := lw_tbl) (i := 596) (by decide +kernel)) rfl
theorem gm_u597 : Cond.code yX1_load cX1_load 5 none ∈ gm_U := gm_U_in (List.mem_of_getElem? (l := lw_tbl) (i := 597) (by decide +kernel)) rfl
theorem gm_u598 : Cond.methodLink RX1 29 yX5_clear ∈ gm_U := gm_U_in (List.mem_of_getElem? (l := lw_tbl) (i := 598) (by decide +kernel)) rfl
theorem gm_u599 : Cond.instanceMethod yX5_clear ∈ gm_U := gm_U_in (List.mem_of_getElem? (l := lw_tbl) (i := 599) (by decide +kernel)) rfl
theorem gm_u600 : Cond.selects RX5 yX5_clear yX5_clear ∈ gm_U := gm_U_in (List.mem_of_getElem? (l := lw_tbl) (i := 600) (by decide +kernel)) rfl
theorem gm_u601 : Cond.code yX5_clear cX5_clear 1 none ∈ gm_U := gm_U_in (List.mem_of_getElem? (l := lw_tbl) (i := 601) (by decide +kernel)) rfl
theorem gm_u602 : Cond.methodLink RX1 32 yX4_sizeOf ∈ gm_U := gm_U_in (List.mem_of_getElem? (l := lw_tbl) (i := 602) (by decide +kernel)) rfl
theorem gm_u603 : Cond.methodLink RX1 38 yX4_symbolOf ∈ gm_U := gm_U_in (List.mem_of_getElem? (l := lw_tbl) (i := 603) (by decide +kernel)) rfl
theorem gm_u604 : Cond.methodLink RX1 42 yX5_put ∈ gm_U := gm_U_in (List.mem_of_getElem? (l := lw_tbl) (i := 604) (by decide +kernel)) rfl
theorem gm_u605 : Cond.instanceMethod yX5_put ∈ gm_U := gm_U_in (List.mem_of_getElem? (l := lw_tbl) (i := 605) (by decide +kernel)) rfl
theorem gm_u606 : Cond.selects RX5 yX5_put yX5_put ∈ gm_U := gm_U_in (List.mem_of_getElem? (l := lw_tbl) (i := 606) (by decide +kernel)) rfl
theorem gm_u607 : Cond.code yX5_put cX5_put 2 none ∈ gm_U := gm_U_in (List.mem_of_getElem? (l := lw_tbl) (i := 607) (by decide +kernel)) rfl
theorem gm_u608 : Cond.methodLink RX6 123 yX6_ruleOrThrow ∈ gm_U := gm_U_in (List.mem_of_getElem? (l := lw_tbl) (i := 608) (by decide +kernel)) rfl
theorem gm_u610 : Cond.instanceMethod yX6_ruleOrThrow ∈ gm_U := gm_U_in (List.mem_of_getElem? (l := lw_tbl) (i := 610) (by decide +kernel)) rfl
theorem gm_u611 : Cond.code yX6_ruleOrThrow cX6_ruleOrThrow 1 (some .char) ∈ gm_U := gm_U_in (List.mem_of_getElem? (l := lw_tbl) (i := 611) (by decide +kernel)) rfl
theorem gm_u612 : Cond.methodLink RX6 139 yX1_seek ∈ gm_U := gm_U_in (List.mem_of_getElem? (l := lw_tbl) (i := 612) (by decide +kernel)) rfl
theorem gm_u613 : Cond.instanceMethod yX1_seek ∈ gm_U := gm_U_in (List.mem_of_getElem? (l := lw_tbl) (i := 613) (by decide +kernel)) rfl
theorem gm_u614 : Cond.selects RX1 yX1_seek yX1_seek ∈ gm_U := gm_U_in (List.mem_of_getElem? (l := lw_tbl) (i := 614) (by decide +kernel)) rfl
theorem gm_u615 : Cond.code yX1_seek cX1_seek 2 (some .boolean) ∈ gm_U := gm_U_in (List.mem_of_getElem? (l := lw_tbl) (i := 615) (by decide +kernel)) rfl
theorem gm_u616 : Cond.methodLink RX1 46 yX5_measure ∈ gm_U := gm_U_in (List.mem_of_getElem? (l := lw_tbl) (i := 616) (by decide +kernel)) rfl
theorem gm_u617 : Cond.instanceMethod yX5_measure ∈ gm_U := gm_U_in (List.mem_of_getElem? (l := lw_tbl) (i := 617) (by decide +kernel)) rfl
theorem gm_u618 : Cond.selects RX5 yX5_measure yX5_measure ∈ gm_U := gm_U_in (List.mem_of_getElem? (l := lw_tbl) (i := 618) (by decide +kernel)) rfl
theorem gm_u619 : Cond.code yX5_measure cX5_measure 5 none ∈ gm_U := gm_U_in (List.mem_of_getElem? (l := lw_tbl) (i := 619) (by decide +kernel)) rfl
theorem gm_u620 : Cond.methodLink RX5 34 yJ9_min_7cf53 ∈ gm_U := gm_U_in (List.mem_of_getElem? (l := lw_tbl) (i := 620) (by decide +kernel)) rfl
theorem gm_u621 : Cond.static yJ9_min_7cf53 ∈ gm_U := gm_U_in (List.mem_of_getElem? (l := lw_tbl) (i := 621) (by decide +kernel)) rfl
theorem gm_u622 : Cond.code yJ9_min_7cf53 cJ9_min_7cf53 2 (some .int) ∈ gm_U := gm_U_in (List.mem_of_getElem? (l := lw_tbl) (i := 622) (by decide +kernel)) rfl
theorem gm_u623 : Cond.methodLink RX5 40 yX5_partsOf ∈ gm_U := gm_U_in (List.mem_of_getElem? (l := lw_tbl) (i := 623) (by decide +kernel)) rfl
theorem gm_u624 : Cond.static yX5_partsOf ∈ gm_U := gm_U_in (List.mem_of_getElem? (l := lw_tbl) (i := 624) (by decide +kernel)) rfl
theorem gm_u625 : Cond.code yX5_partsOf cX5_partsOf 1 (some .int) ∈ gm_U := gm_U_in (List.mem_of_getElem? (l := lw_tbl) (i := 625) (by decide +kernel)) rfl
theorem gm_u626 : Cond.methodLink RX5 44 yX5_endOf ∈ gm_U := gm_U_in (List.mem_of_getElem? (l := lw_tbl) (i := 626) (by decide +kernel)) rfl
theorem gm_u627 : Cond.instanceMethod yX5_endOf ∈ gm_U := gm_U_in (List.mem_of_getElem? (l := lw_tbl) (i := 627) (by decide +kernel)) rfl
theorem gm_u628 : Cond.selects RX5 yX5_endOf yX5_endOf ∈ gm_U := gm_U_in (List.mem_of_getElem? (l := lw_tbl) (i := 628) (by decide +kernel)) rfl
theorem gm_u629 : Cond.code yX5_endOf cX5_endOf 2 (some .int) ∈ gm_U := gm_U_in (List.mem_of_getElem? (l := lw_tbl) (i := 629) (by decide +kernel)) rfl
theorem gm_u630 : Cond.methodLink RX1 49 yX5_length ∈ gm_U := gm_U_in (List.mem_of_getElem? (l := lw_tbl) (i := 630) (by decide +kernel)) rfl
theorem gm_u631 : Cond.instanceMethod yX5_length ∈ gm_U := gm_U_in (List.mem_of_getElem? (l := lw_tbl) (i := 631) (by decide +kernel)) rfl
theorem gm_u632 : Cond.selects RX5 yX5_length yX5_length ∈ gm_U := gm_U_in (List.mem_of_getElem? (l := lw_tbl) (i := 632) (by decide +kernel)) rfl
theorem gm_u633 : Cond.code yX5_length cX5_length 1 (some .int) ∈ gm_U := gm_U_in (List.mem_of_getElem? (l := lw_tbl) (i := 633) (by decide +kernel)) rfl
theorem gm_u634 : Cond.methodLink RX1 53 yX1_ruleAt ∈ gm_U := gm_U_in (List.mem_of_getElem? (l := lw_tbl) (i := 634) (by decide +kernel)) rfl
theorem gm_u636 : Cond.instanceMethod yX1_ruleAt ∈ gm_U := gm_U_in (List.mem_of_getElem? (l := lw_tbl) (i := 636) (by decide +kernel)) rfl
theorem gm_u637 : Cond.code yX1_ruleAt cX1_ruleAt 2 (some .char) ∈ gm_U := gm_U_in (List.mem_of_getElem? (l := lw_tbl) (i := 637) (by decide +kernel)) rfl
theorem gm_u638 : Cond.methodLink RX1 57 yX5_at ∈ gm_U := gm_U_in (List.mem_of_getElem? (l := lw_tbl) (i := 638) (by decide +kernel)) rfl
theorem gm_u639 : Cond.instanceMethod yX5_at ∈ gm_U := gm_U_in (List.mem_of_getElem? (l := lw_tbl) (i := 639) (by decide +kernel)) rfl
theorem gm_u640 : Cond.selects RX5 yX5_at yX5_at ∈ gm_U := gm_U_in (List.mem_of_getElem? (l := lw_tbl) (i := 640) (by decide +kernel)) rfl
theorem gm_u641 : Cond.code yX5_at cX5_at 2 (some .char) ∈ gm_U := gm_U_in (List.mem_of_getElem? (l := lw_tbl) (i := 641) (by decide +kernel)) rfl
theorem gm_u642 : Cond.methodLink RX1 60 yX1_ruleOfComplement ∈ gm_U := gm_U_in (List.mem_of_getElem? (l := lw_tbl) (i := 642) (by decide +kernel)) rfl
theorem gm_u643 : Cond.static yX1_ruleOfComplement ∈ gm_U := gm_U_in (List.mem_of_getElem? (l := lw_tbl) (i := 643) (by decide +kernel)) rfl
theorem gm_u644 : Cond.code yX1_ruleOfComplement cX1_ruleOfComplement 1 (some .char) ∈ gm_U := gm_U_in (List.mem_of_getElem? (l := lw_tbl) (i := 644) (by decide +kernel)) rfl
theorem gm_u645 : Cond.methodLink RX1 64 yX1_ruleOfPair ∈ gm_U := gm_U_in (List.mem_of_getElem? (l := lw_tbl) (i := 645) (by decide +kernel)) rfl
theorem gm_u647 : Cond.instanceMethod yX1_ruleOfPair ∈ gm_U := gm_U_in (List.mem_of_getElem? (l := lw_tbl) (i := 647) (by decide +kernel)) rfl
theorem gm_u648 : Cond.code yX1_ruleOfPair cX1_ruleOfPair 7 (some .char) ∈ gm_U := gm_U_in (List.mem_of_getElem? (l := lw_tbl) (i := 648) (by decide +kernel)) rfl
theorem gm_u649 : Cond.methodLink RX1 68 yX5_endOf ∈ gm_U := gm_U_in (List.mem_of_getElem? (l := lw_tbl) (i := 649) (by decide +kernel)) rfl
theorem gm_u650 : Cond.methodLink RX1 71 yX5_isSame ∈ gm_U := gm_U_in (List.mem_of_getElem? (l := lw_tbl) (i := 650) (by decide +kernel)) rfl
theorem gm_u651 : Cond.instanceMethod yX5_isSame ∈ gm_U := gm_U_in (List.mem_of_getElem? (l := lw_tbl) (i := 651) (by decide +kernel)) rfl
theorem gm_u652 : Cond.selects RX5 yX5_isSame yX5_isSame ∈ gm_U := gm_U_in (List.mem_of_getElem? (l := lw_tbl) (i := 652) (by decide +kernel)) rfl
theorem gm_u653 : Cond.code yX5_isSame cX5_isSame 5 (some .boolean) ∈ gm_U := gm_U_in (List.mem_of_getElem? (l := lw_tbl) (i := 653) (by decide +kernel)) rfl
theorem gm_u654 : Cond.methodLink RX5 26 yX5_at ∈ gm_U := gm_U_in (List.mem_of_getElem? (l := lw_tbl) (i := 654) (by decide +kernel)) rfl
theorem gm_u656 : Cond.methodLink RX6 165 yX1_nextRule ∈ gm_U := gm_U_in (List.mem_of_getElem? (l := lw_tbl) (i := 656) (by decide +kernel)) rfl
theorem gm_u657 : Cond.instanceMethod yX1_nextRule ∈ gm_U := gm_U_in (List.mem_of_getElem? (l := lw_tbl) (i := 657) (by decide +kernel)) rfl
theorem gm_u658 : Cond.selects RX1 yX1_nextRule yX1_nextRule ∈ gm_U := gm_U_in (List.mem_of_getElem? (l := lw_tbl) (i := 658) (by decide +kernel)) rfl
theorem gm_u659 : Cond.code yX1_nextRule cX1_nextRule 1 (some .char) ∈ gm_U := gm_U_in (List.mem_of_getElem? (l := lw_tbl) (i := 659) (by decide +kernel)) rfl
theorem gm_u660 : Cond.methodLink RL 195 yL_step ∈ gm_U := gm_U_in (List.mem_of_getElem? (l := lw_tbl) (i := 660) (by decide +kernel)) rfl
theorem gm_u661 : Cond.static yL_step ∈ gm_U := gm_U_in (List.mem_of_getElem? (l := lw_tbl) (i := 661) (by decide +kernel)) rfl
theorem gm_u662 : Cond.codeWith yL_step cL_step 4 (some .int) [(0, 9, 12, 27), (0, 9, 15, 49), (0, 9, 18, 71), (0, 9, 21, 15)] ∈ gm_U := gm_U_in (List.mem_of_getElem? (l := lw_tbl) (i := 662) (by decide +kernel)) rfl
theorem gm_u663 : Cond.classLink RL 71 "java/lang/UnsupportedOperationException" ∈ gm_U := gm_U_in (List.mem_of_getElem? (l := lw_tbl) (i := 663) (by decide +kernel)) rfl
theorem gm_u664 : Cond.methodLink RL 68 yX6_step ∈ gm_U := gm_U_in (List.mem_of_getElem? (l := lw_tbl) (i := 664) (by decide +kernel)) rfl
theorem gm_u665 : Cond.instanceMethod yX6_step ∈ gm_U := gm_U_in (List.mem_of_getElem? (l := lw_tbl) (i := 665) (by decide +kernel)) rfl
theorem gm_u666 : Cond.selects RX6 yX6_step yX6_step ∈ gm_U := gm_U_in (List.mem_of_getElem? (l := lw_tbl) (i := 666) (by decide +kernel)) rfl
theorem gm_u667 : Cond.code yX6_step cX6_step 2 (some .int) ∈ gm_U := gm_U_in (List.mem_of_getElem? (l := lw_tbl) (i := 667) (by decide +kernel)) rfl
theorem gm_u668 : Cond.methodLink RX6 127 yX6_rewriteOrThrow ∈ gm_U := gm_U_in (List.mem_of_getElem? (l := lw_tbl) (i := 668) (by decide +kernel)) rfl
theorem gm_u670 : Cond.instanceMethod yX6_rewriteOrThrow ∈ gm_U := gm_U_in (List.mem_of_getElem? (l := lw_tbl) (i := 670) (by decide +kernel)) rfl
theorem gm_u671 : Cond.code yX6_rewriteOrThrow cX6_rewriteOrThrow 1 none ∈ gm_U := gm_U_in (List.mem_of_getElem? (l := lw_tbl) (i := 671) (by decide +kernel)) rfl
theorem gm_u672 : Cond.methodLink RX6 143 yX1_rewrite ∈ gm_U := gm_U_in (List.mem_of_getElem? (l := lw_tbl) (i := 672) (by decide +kernel)) rfl
theorem gm_u673 : Cond.instanceMethod yX1_rewrite ∈ gm_U := gm_U_in (List.mem_of_getElem? (l := lw_tbl) (i := 673) (by decide +kernel)) rfl
theorem gm_u674 : Cond.selects RX1 yX1_rewrite yX1_rewrite ∈ gm_U := gm_U_in (List.mem_of_getElem? (l := lw_tbl) (i := 674) (by decide +kernel)) rfl
theorem gm_u675 : Cond.code yX1_rewrite cX1_rewrite 3 (some .boolean) ∈ gm_U := gm_U_in (List.mem_of_getElem? (l := lw_tbl) (i := 675) (by decide +kernel)) rfl
theorem gm_u676 : Cond.methodLink RX1 75 yX5_putPart ∈ gm_U := gm_U_in (List.mem_of_getElem? (l := lw_tbl) (i := 676) (by decide +kernel)) rfl
theorem gm_u677 : Cond.instanceMethod yX5_putPart ∈ gm_U := gm_U_in (List.mem_of_getElem? (l := lw_tbl) (i := 677) (by decide +kernel)) rfl
theorem gm_u678 : Cond.selects RX5 yX5_putPart yX5_putPart ∈ gm_U := gm_U_in (List.mem_of_getElem? (l := lw_tbl) (i := 678) (by decide +kernel)) rfl
theorem gm_u679 : Cond.code yX5_putPart cX5_putPart 5 none ∈ gm_U := gm_U_in (List.mem_of_getElem? (l := lw_tbl) (i := 679) (by decide +kernel)) rfl
theorem gm_u680 : Cond.methodLink RX5 30 yX5_put ∈ gm_U := gm_U_in (List.mem_of_getElem? (l := lw_tbl) (i := 680) (by decide +kernel)) rfl
theorem gm_u681 : Cond.methodLink RX1 79 yX1_putRewritten ∈ gm_U := gm_U_in (List.mem_of_getElem? (l := lw_tbl) (i := 681) (by decide +kernel)) rfl
theorem gm_u683 : Cond.instanceMethod yX1_putRewritten ∈ gm_U := gm_U_in (List.mem_of_getElem? (l := lw_tbl) (i := 683) (by decide +kernel)) rfl
theorem gm_u684 : Cond.code yX1_putRewritten cX1_putRewritten 4 none ∈ gm_U := gm_U_in (List.mem_of_getElem? (l := lw_tbl) (i := 684) (by decide +kernel)) rfl
theorem gm_u685 : Cond.methodLink RX1 83 yX1_putComplements ∈ gm_U := gm_U_in (List.mem_of_getElem? (l := lw_tbl) (i := 685) (by decide +kernel)) rfl
theorem gm_u687 : Cond.instanceMethod yX1_putComplements ∈ gm_U := gm_U_in (List.mem_of_getElem? (l := lw_tbl) (i := 687) (by decide +kernel)) rfl
theorem gm_u688 : Cond.code yX1_putComplements cX1_putComplements 5 none ∈ gm_U := gm_U_in (List.mem_of_getElem? (l := lw_tbl) (i := 688) (by decide +kernel)) rfl
theorem gm_u689 : Cond.methodLink RX1 87 yX1_putDifferences ∈ gm_U := gm_U_in (List.mem_of_getElem? (l := lw_tbl) (i := 689) (by decide +kernel)) rfl
theorem gm_u691 : Cond.instanceMethod yX1_putDifferences ∈ gm_U := gm_U_in (List.mem_of_getElem? (l := lw_tbl) (i := 691) (by decide +kernel)) rfl
theorem gm_u692 : Cond.code yX1_putDifferences cX1_putDifferences 4 none ∈ gm_U := gm_U_in (List.mem_of_getElem? (l := lw_tbl) (i := 692) (by decide +kernel)) rfl
theorem gm_u693 : Cond.methodLink RX1 91 yX1_putOtherSide ∈ gm_U := gm_U_in (List.mem_of_getElem? (l := lw_tbl) (i := 693) (by decide +kernel)) rfl
theorem gm_u695 : Cond.instanceMethod yX1_putOtherSide ∈ gm_U := gm_U_in (List.mem_of_getElem? (l := lw_tbl) (i := 695) (by decide +kernel)) rfl
theorem gm_u696 : Cond.code yX1_putOtherSide cX1_putOtherSide 5 none ∈ gm_U := gm_U_in (List.mem_of_getElem? (l := lw_tbl) (i := 696) (by decide +kernel)) rfl
theorem gm_u697 : Cond.methodLink RX1 95 yX1_constantOf ∈ gm_U := gm_U_in (List.mem_of_getElem? (l := lw_tbl) (i := 697) (by decide +kernel)) rfl
theorem gm_u698 : Cond.static yX1_constantOf ∈ gm_U := gm_U_in (List.mem_of_getElem? (l := lw_tbl) (i := 698) (by decide +kernel)) rfl
theorem gm_u699 : Cond.code yX1_constantOf cX1_constantOf 2 (some .char) ∈ gm_U := gm_U_in (List.mem_of_getElem? (l := lw_tbl) (i := 699) (by decide +kernel)) rfl
theorem gm_u700 : Cond.classLink RX6 168 "java/lang/UnsupportedOperationException" ∈ gm_U := gm_U_in (List.mem_of_getElem? (l := lw_tbl) (i := 700) (by decide +kernel)) rfl
theorem gm_u716 : Cond.methodLink RX6 130 yX1_text ∈ gm_U := gm_U_in (List.mem_of_getElem? (l := lw_tbl) (i := 716) (by decide +kernel)) rfl
theorem gm_u717 : Cond.instanceMethod yX1_text ∈ gm_U := gm_U_in (List.mem_of_getElem? (l := lw_tbl) (i := 717) (by decide +kernel)) rfl
theorem gm_u718 : Cond.selects RX1 yX1_text yX1_text ∈ gm_U := gm_U_in (List.mem_of_getElem? (l := lw_tbl) (i := 718) (by decide +kernel)) rfl
theorem gm_u719 : Cond.code yX1_text cX1_text 1 (some (.object "Gimlet$Text")) ∈ gm_U := gm_U_in (List.mem_of_getElem? (l := lw_tbl) (i := 719) (by decide +kernel)) rfl
theorem gm_u720 : Cond.methodLink RX6 134 yX4_makeAll ∈ gm_U := gm_U_in (List.mem_of_getElem? (l := lw_tbl) (i := 720) (by decide +kernel)) rfl
theorem gm_u721 : Cond.instanceMethod yX4_makeAll ∈ gm_U := gm_U_in (List.mem_of_getElem? (l := lw_tbl) (i := 721) (by decide +kernel)) rfl
theorem gm_u722 : Cond.selects RX4 yX4_makeAll yX4_makeAll ∈ gm_U := gm_U_in (List.mem_of_getElem? (l := lw_tbl) (i := 722) (by decide +kernel)) rfl
theorem gm_u723 : Cond.code yX4_makeAll cX4_makeAll 4 (some .int) ∈ gm_U := gm_U_in (List.mem_of_getElem? (l := lw_tbl) (i := 723) (by decide +kernel)) rfl
theorem gm_u724 : Cond.methodLink RX4 65 yX5_rewind ∈ gm_U := gm_U_in (List.mem_of_getElem? (l := lw_tbl) (i := 724) (by decide +kernel)) rfl
theorem gm_u725 : Cond.instanceMethod yX5_rewind ∈ gm_U := gm_U_in (List.mem_of_getElem? (l := lw_tbl) (i := 725) (by decide +kernel)) rfl
theorem gm_u726 : Cond.selects RX5 yX5_rewind yX5_rewind ∈ gm_U := gm_U_in (List.mem_of_getElem? (l := lw_tbl) (i := 726) (by decide +kernel)) rfl
theorem gm_u727 : Cond.code yX5_rewind cX5_rewind 1 none ∈ gm_U := gm_U_in (List.mem_of_getElem? (l := lw_tbl) (i := 727) (by decide +kernel)) rfl
theorem gm_u728 : Cond.methodLink RX4 70 yX4_makeNext ∈ gm_U := gm_U_in (List.mem_of_getElem? (l := lw_tbl) (i := 728) (by decide +kernel)) rfl
theorem gm_u730 : Cond.instanceMethod yX4_makeNext ∈ gm_U := gm_U_in (List.mem_of_getElem? (l := lw_tbl) (i := 730) (by decide +kernel)) rfl
theorem gm_u731 : Cond.code yX4_makeNext cX4_makeNext 7 (some .int) ∈ gm_U := gm_U_in (List.mem_of_getElem? (l := lw_tbl) (i := 731) (by decide +kernel)) rfl
theorem gm_u732 : Cond.methodLink RX4 74 yX5_read ∈ gm_U := gm_U_in (List.mem_of_getElem? (l := lw_tbl) (i := 732) (by decide +kernel)) rfl
theorem gm_u733 : Cond.instanceMethod yX5_read ∈ gm_U := gm_U_in (List.mem_of_getElem? (l := lw_tbl) (i := 733) (by decide +kernel)) rfl
theorem gm_u734 : Cond.selects RX5 yX5_read yX5_read ∈ gm_U := gm_U_in (List.mem_of_getElem? (l := lw_tbl) (i := 734) (by decide +kernel)) rfl
theorem gm_u735 : Cond.code yX5_read cX5_read 2 (some .char) ∈ gm_U := gm_U_in (List.mem_of_getElem? (l := lw_tbl) (i := 735) (by decide +kernel)) rfl
theorem gm_u736 : Cond.methodLink RX4 78 yX5_partsOf ∈ gm_U := gm_U_in (List.mem_of_getElem? (l := lw_tbl) (i := 736) (by decide +kernel)) rfl
theorem gm_u737 : Cond.methodLink RX4 82 yX4_make ∈ gm_U := gm_U_in (List.mem_of_getElem? (l := lw_tbl) (i := 737) (by decide +kernel)) rfl
theorem gm_u738 : Cond.methodLink RL 198 yL_steps ∈ gm_U := gm_U_in (List.mem_of_getElem? (l := lw_tbl) (i := 738) (by decide +kernel)) rfl
theorem gm_u739 : Cond.static yL_steps ∈ gm_U := gm_U_in (List.mem_of_getElem? (l := lw_tbl) (i := 739) (by decide +kernel)) rfl
theorem gm_u740 : Cond.codeWith yL_steps cL_steps 4 (some .int) [(0, 9, 12, 27)] ∈ gm_U := gm_U_in (List.mem_of_getElem? (l := lw_tbl) (i := 740) (by decide +kernel)) rfl
theorem gm_u741 : Cond.methodLink RL 73 yX6_steps ∈ gm_U := gm_U_in (List.mem_of_getElem? (l := lw_tbl) (i := 741) (by decide +kernel)) rfl
theorem gm_u742 : Cond.instanceMethod yX6_steps ∈ gm_U := gm_U_in (List.mem_of_getElem? (l := lw_tbl) (i := 742) (by decide +kernel)) rfl
theorem gm_u743 : Cond.selects RX6 yX6_steps yX6_steps ∈ gm_U := gm_U_in (List.mem_of_getElem? (l := lw_tbl) (i := 743) (by decide +kernel)) rfl
theorem gm_u744 : Cond.code yX6_steps cX6_steps 3 (some .int) ∈ gm_U := gm_U_in (List.mem_of_getElem? (l := lw_tbl) (i := 744) (by decide +kernel)) rfl
theorem gm_u745 : Cond.constant RX6 138 (1000000) ∈ gm_U := gm_U_in (List.mem_of_getElem? (l := lw_tbl) (i := 745) (by decide +kernel)) rfl
theorem gm_u746 : Cond.methodLink RL 201 yL_normalForm ∈ gm_U := gm_U_in (List.mem_of_getElem? (l := lw_tbl) (i := 746) (by decide +kernel)) rfl
theorem gm_u747 : Cond.static yL_normalForm ∈ gm_U := gm_U_in (List.mem_of_getElem? (l := lw_tbl) (i := 747) (by decide +kernel)) rfl
theorem gm_u748 : Cond.codeWith yL_normalForm cL_normalForm 4 (some .int) [(0, 9, 12, 27), (0, 9, 15, 71), (0, 9, 18, 15)] ∈ gm_U := gm_U_in (List.mem_of_getElem? (l := lw_tbl) (i := 748) (by decide +kernel)) rfl
theorem gm_u749 : Cond.methodLink RL 76 yX6_normalForm ∈ gm_U := gm_U_in (List.mem_of_getElem? (l := lw_tbl) (i := 749) (by decide +kernel)) rfl
theorem gm_u750 : Cond.instanceMethod yX6_normalForm ∈ gm_U := gm_U_in (List.mem_of_getElem? (l := lw_tbl) (i := 750) (by decide +kernel)) rfl
theorem gm_u751 : Cond.selects RX6 yX6_normalForm yX6_normalForm ∈ gm_U := gm_U_in (List.mem_of_getElem? (l := lw_tbl) (i := 751) (by decide +kernel)) rfl
theorem gm_u752 : Cond.code yX6_normalForm cX6_normalForm 3 (some .int) ∈ gm_U := gm_U_in (List.mem_of_getElem? (l := lw_tbl) (i := 752) (by decide +kernel)) rfl
theorem gm_u753 : Cond.methodLink RL 204 yL_primes ∈ gm_U := gm_U_in (List.mem_of_getElem? (l := lw_tbl) (i := 753) (by decide +kernel)) rfl
theorem gm_u754 : Cond.static yL_primes ∈ gm_U := gm_U_in (List.mem_of_getElem? (l := lw_tbl) (i := 754) (by decide +kernel)) rfl
theorem gm_u755 : Cond.codeWith yL_primes cL_primes 4 (some .int) [(0, 9, 12, 27)] ∈ gm_U := gm_U_in (List.mem_of_getElem? (l := lw_tbl) (i := 755) (by decide +kernel)) rfl
theorem gm_u756 : Cond.methodLink RL 79 yX6_primes ∈ gm_U := gm_U_in (List.mem_of_getElem? (l := lw_tbl) (i := 756) (by decide +kernel)) rfl
theorem gm_u757 : Cond.instanceMethod yX6_primes ∈ gm_U := gm_U_in (List.mem_of_getElem? (l := lw_tbl) (i := 757) (by decide +kernel)) rfl
theorem gm_u758 : Cond.selects RX6 yX6_primes yX6_primes ∈ gm_U := gm_U_in (List.mem_of_getElem? (l := lw_tbl) (i := 758) (by decide +kernel)) rfl
theorem gm_u759 : Cond.code yX6_primes cX6_primes 2 (some .int) ∈ gm_U := gm_U_in (List.mem_of_getElem? (l := lw_tbl) (i := 759) (by decide +kernel)) rfl
theorem gm_u760 : Cond.methodLink RX6 146 yX0_join ∈ gm_U := gm_U_in (List.mem_of_getElem? (l := lw_tbl) (i := 760) (by decide +kernel)) rfl
theorem gm_u761 : Cond.instanceMethod yX0_join ∈ gm_U := gm_U_in (List.mem_of_getElem? (l := lw_tbl) (i := 761) (by decide +kernel)) rfl
theorem gm_u762 : Cond.selects RX0 yX0_join yX0_join ∈ gm_U := gm_U_in (List.mem_of_getElem? (l := lw_tbl) (i := 762) (by decide +kernel)) rfl
theorem gm_u763 : Cond.code yX0_join cX0_join 4 none ∈ gm_U := gm_U_in (List.mem_of_getElem? (l := lw_tbl) (i := 763) (by decide +kernel)) rfl
theorem gm_u764 : Cond.methodLink RX0 37 yX0_isSingle ∈ gm_U := gm_U_in (List.mem_of_getElem? (l := lw_tbl) (i := 764) (by decide +kernel)) rfl
theorem gm_u765 : Cond.static yX0_isSingle ∈ gm_U := gm_U_in (List.mem_of_getElem? (l := lw_tbl) (i := 765) (by decide +kernel)) rfl
theorem gm_u766 : Cond.code yX0_isSingle cX0_isSingle 2 (some .boolean) ∈ gm_U := gm_U_in (List.mem_of_getElem? (l := lw_tbl) (i := 766) (by decide +kernel)) rfl
theorem gm_u767 : Cond.methodLink RX0 41 yX0_joinParts ∈ gm_U := gm_U_in (List.mem_of_getElem? (l := lw_tbl) (i := 767) (by decide +kernel)) rfl
theorem gm_u769 : Cond.instanceMethod yX0_joinParts ∈ gm_U := gm_U_in (List.mem_of_getElem? (l := lw_tbl) (i := 769) (by decide +kernel)) rfl
theorem gm_u770 : Cond.code yX0_joinParts cX0_joinParts 5 none ∈ gm_U := gm_U_in (List.mem_of_getElem? (l := lw_tbl) (i := 770) (by decide +kernel)) rfl
theorem gm_u771 : Cond.methodLink RX0 45 yX0_weightOf ∈ gm_U := gm_U_in (List.mem_of_getElem? (l := lw_tbl) (i := 771) (by decide +kernel)) rfl
theorem gm_u772 : Cond.static yX0_weightOf ∈ gm_U := gm_U_in (List.mem_of_getElem? (l := lw_tbl) (i := 772) (by decide +kernel)) rfl
theorem gm_u773 : Cond.code yX0_weightOf cX0_weightOf 1 (some .int) ∈ gm_U := gm_U_in (List.mem_of_getElem? (l := lw_tbl) (i := 773) (by decide +kernel)) rfl
theorem gm_u774 : Cond.methodLink RX6 149 yX0_countPrimes ∈ gm_U := gm_U_in (List.mem_of_getElem? (l := lw_tbl) (i := 774) (by decide +kernel)) rfl
theorem gm_u775 : Cond.instanceMethod yX0_countPrimes ∈ gm_U := gm_U_in (List.mem_of_getElem? (l := lw_tbl) (i := 775) (by decide +kernel)) rfl
theorem gm_u776 : Cond.selects RX0 yX0_countPrimes yX0_countPrimes ∈ gm_U := gm_U_in (List.mem_of_getElem? (l := lw_tbl) (i := 776) (by decide +kernel)) rfl
theorem gm_u777 : Cond.code yX0_countPrimes cX0_countPrimes 3 (some .int) ∈ gm_U := gm_U_in (List.mem_of_getElem? (l := lw_tbl) (i := 777) (by decide +kernel)) rfl
theorem gm_u778 : Cond.methodLink RL 207 yL_primesByTrying ∈ gm_U := gm_U_in (List.mem_of_getElem? (l := lw_tbl) (i := 778) (by decide +kernel)) rfl
theorem gm_u779 : Cond.static yL_primesByTrying ∈ gm_U := gm_U_in (List.mem_of_getElem? (l := lw_tbl) (i := 779) (by decide +kernel)) rfl
theorem gm_u780 : Cond.codeWith yL_primesByTrying cL_primesByTrying 4 (some .int) [(0, 9, 12, 27)] ∈ gm_U := gm_U_in (List.mem_of_getElem? (l := lw_tbl) (i := 780) (by decide +kernel)) rfl
theorem gm_u781 : Cond.methodLink RL 82 yX6_primesByTrying ∈ gm_U := gm_U_in (List.mem_of_getElem? (l := lw_tbl) (i := 781) (by decide +kernel)) rfl
theorem gm_u782 : Cond.instanceMethod yX6_primesByTrying ∈ gm_U := gm_U_in (List.mem_of_getElem? (l := lw_tbl) (i := 782) (by decide +kernel)) rfl
theorem gm_u783 : Cond.selects RX6 yX6_primesByTrying yX6_primesByTrying ∈ gm_U := gm_U_in (List.mem_of_getElem? (l := lw_tbl) (i := 783) (by decide +kernel)) rfl
theorem gm_u784 : Cond.code yX6_primesByTrying cX6_primesByTrying 2 (some .int) ∈ gm_U := gm_U_in (List.mem_of_getElem? (l := lw_tbl) (i := 784) (by decide +kernel)) rfl
theorem gm_u785 : Cond.methodLink RX6 152 yX0_countByTrying ∈ gm_U := gm_U_in (List.mem_of_getElem? (l := lw_tbl) (i := 785) (by decide +kernel)) rfl
theorem gm_u786 : Cond.instanceMethod yX0_countByTrying ∈ gm_U := gm_U_in (List.mem_of_getElem? (l := lw_tbl) (i := 786) (by decide +kernel)) rfl
theorem gm_u787 : Cond.selects RX0 yX0_countByTrying yX0_countByTrying ∈ gm_U := gm_U_in (List.mem_of_getElem? (l := lw_tbl) (i := 787) (by decide +kernel)) rfl
theorem gm_u788 : Cond.code yX0_countByTrying cX0_countByTrying 4 (some .int) ∈ gm_U := gm_U_in (List.mem_of_getElem? (l := lw_tbl) (i := 788) (by decide +kernel)) rfl
theorem gm_u789 : Cond.methodLink RX0 48 yX0_isInside ∈ gm_U := gm_U_in (List.mem_of_getElem? (l := lw_tbl) (i := 789) (by decide +kernel)) rfl
theorem gm_u790 : Cond.static yX0_isInside ∈ gm_U := gm_U_in (List.mem_of_getElem? (l := lw_tbl) (i := 790) (by decide +kernel)) rfl
theorem gm_u791 : Cond.code yX0_isInside cX0_isInside 2 (some .boolean) ∈ gm_U := gm_U_in (List.mem_of_getElem? (l := lw_tbl) (i := 791) (by decide +kernel)) rfl
theorem gm_u792 : Cond.methodLink RX0 51 yX0_isInLarger ∈ gm_U := gm_U_in (List.mem_of_getElem? (l := lw_tbl) (i := 792) (by decide +kernel)) rfl
theorem gm_u794 : Cond.instanceMethod yX0_isInLarger ∈ gm_U := gm_U_in (List.mem_of_getElem? (l := lw_tbl) (i := 794) (by decide +kernel)) rfl
theorem gm_u795 : Cond.code yX0_isInLarger cX0_isInLarger 4 (some .boolean) ∈ gm_U := gm_U_in (List.mem_of_getElem? (l := lw_tbl) (i := 795) (by decide +kernel)) rfl
theorem gm_u796 : Cond.methodLink RL 210 yL_prime ∈ gm_U := gm_U_in (List.mem_of_getElem? (l := lw_tbl) (i := 796) (by decide +kernel)) rfl
theorem gm_u797 : Cond.static yL_prime ∈ gm_U := gm_U_in (List.mem_of_getElem? (l := lw_tbl) (i := 797) (by decide +kernel)) rfl
theorem gm_u798 : Cond.codeWith yL_prime cL_prime 6 (some .int) [(0, 12, 15, 27), (0, 12, 19, 49), (0, 12, 23, 13)] ∈ gm_U := gm_U_in (List.mem_of_getElem? (l := lw_tbl) (i := 798) (by decide +kernel)) rfl
theorem gm_u799 : Cond.methodLink RL 85 yX6_prime ∈ gm_U := gm_U_in (List.mem_of_getElem? (l := lw_tbl) (i := 799) (by decide +kernel)) rfl
theorem gm_u800 : Cond.instanceMethod yX6_prime ∈ gm_U := gm_U_in (List.mem_of_getElem? (l := lw_tbl) (i := 800) (by decide +kernel)) rfl
theorem gm_u801 : Cond.selects RX6 yX6_prime yX6_prime ∈ gm_U := gm_U_in (List.mem_of_getElem? (l := lw_tbl) (i := 801) (by decide +kernel)) rfl
theorem gm_u802 : Cond.code yX6_prime cX6_prime 5 (some .char) ∈ gm_U := gm_U_in (List.mem_of_getElem? (l := lw_tbl) (i := 802) (by decide +kernel)) rfl
theorem gm_u803 : Cond.methodLink RX6 155 yX0_primeAt ∈ gm_U := gm_U_in (List.mem_of_getElem? (l := lw_tbl) (i := 803) (by decide +kernel)) rfl
theorem gm_u804 : Cond.instanceMethod yX0_primeAt ∈ gm_U := gm_U_in (List.mem_of_getElem? (l := lw_tbl) (i := 804) (by decide +kernel)) rfl
theorem gm_u805 : Cond.selects RX0 yX0_primeAt yX0_primeAt ∈ gm_U := gm_U_in (List.mem_of_getElem? (l := lw_tbl) (i := 805) (by decide +kernel)) rfl
theorem gm_u806 : Cond.code yX0_primeAt cX0_primeAt 4 (some .int) ∈ gm_U := gm_U_in (List.mem_of_getElem? (l := lw_tbl) (i := 806) (by decide +kernel)) rfl
theorem gm_u808 : Cond.methodLink RX6 160 yX0_tells ∈ gm_U := gm_U_in (List.mem_of_getElem? (l := lw_tbl) (i := 808) (by decide +kernel)) rfl
theorem gm_u809 : Cond.static yX0_tells ∈ gm_U := gm_U_in (List.mem_of_getElem? (l := lw_tbl) (i := 809) (by decide +kernel)) rfl
theorem gm_u810 : Cond.code yX0_tells cX0_tells 3 (some .char) ∈ gm_U := gm_U_in (List.mem_of_getElem? (l := lw_tbl) (i := 810) (by decide +kernel)) rfl
theorem gm_u811 : Cond.methodLink RL 214 yL_assume ∈ gm_U := gm_U_in (List.mem_of_getElem? (l := lw_tbl) (i := 811) (by decide +kernel)) rfl
theorem gm_u812 : Cond.static yL_assume ∈ gm_U := gm_U_in (List.mem_of_getElem? (l := lw_tbl) (i := 812) (by decide +kernel)) rfl
theorem gm_u813 : Cond.codeWith yL_assume cL_assume 6 (some .int) [(0, 12, 15, 13), (0, 12, 19, 27), (0, 12, 23, 15)] ∈ gm_U := gm_U_in (List.mem_of_getElem? (l := lw_tbl) (i := 813) (by decide +kernel)) rfl
theorem gm_u814 : Cond.methodLink RL 89 yX6_assume ∈ gm_U := gm_U_in (List.mem_of_getElem? (l := lw_tbl) (i := 814) (by decide +kernel)) rfl
theorem gm_u815 : Cond.instanceMethod yX6_assume ∈ gm_U := gm_U_in (List.mem_of_getElem? (l := lw_tbl) (i := 815) (by decide +kernel)) rfl
theorem gm_u816 : Cond.selects RX6 yX6_assume yX6_assume ∈ gm_U := gm_U_in (List.mem_of_getElem? (l := lw_tbl) (i := 816) (by decide +kernel)) rfl
theorem gm_u817 : Cond.code yX6_assume cX6_assume 4 (some .int) ∈ gm_U := gm_U_in (List.mem_of_getElem? (l := lw_tbl) (i := 817) (by decide +kernel)) rfl
theorem gm_u818 : Cond.methodLink RX6 173 yX6_checkStatement ∈ gm_U := gm_U_in (List.mem_of_getElem? (l := lw_tbl) (i := 818) (by decide +kernel)) rfl
theorem gm_u820 : Cond.instanceMethod yX6_checkStatement ∈ gm_U := gm_U_in (List.mem_of_getElem? (l := lw_tbl) (i := 820) (by decide +kernel)) rfl
theorem gm_u821 : Cond.code yX6_checkStatement cX6_checkStatement 4 none ∈ gm_U := gm_U_in (List.mem_of_getElem? (l := lw_tbl) (i := 821) (by decide +kernel)) rfl
theorem gm_u822 : Cond.methodLink RX6 228 yX6_isDenial ∈ gm_U := gm_U_in (List.mem_of_getElem? (l := lw_tbl) (i := 822) (by decide +kernel)) rfl
theorem gm_u823 : Cond.static yX6_isDenial ∈ gm_U := gm_U_in (List.mem_of_getElem? (l := lw_tbl) (i := 823) (by decide +kernel)) rfl
theorem gm_u824 : Cond.code yX6_isDenial cX6_isDenial 1 (some .boolean) ∈ gm_U := gm_U_in (List.mem_of_getElem? (l := lw_tbl) (i := 824) (by decide +kernel)) rfl
theorem gm_u825 : Cond.methodLink RX6 180 yX6_isDemand ∈ gm_U := gm_U_in (List.mem_of_getElem? (l := lw_tbl) (i := 825) (by decide +kernel)) rfl
theorem gm_u826 : Cond.static yX6_isDemand ∈ gm_U := gm_U_in (List.mem_of_getElem? (l := lw_tbl) (i := 826) (by decide +kernel)) rfl
theorem gm_u827 : Cond.code yX6_isDemand cX6_isDemand 1 (some .boolean) ∈ gm_U := gm_U_in (List.mem_of_getElem? (l := lw_tbl) (i := 827) (by decide +kernel)) rfl
theorem gm_u830 : Cond.methodLink RX6 184 yX6_placesOf ∈ gm_U := gm_U_in (List.mem_of_getElem? (l := lw_tbl) (i := 830) (by decide +kernel)) rfl
theorem gm_u832 : Cond.instanceMethod yX6_placesOf ∈ gm_U := gm_U_in (List.mem_of_getElem? (l := lw_tbl) (i := 832) (by decide +kernel)) rfl
theorem gm_u833 : Cond.code yX6_placesOf cX6_placesOf 6 (some .int) ∈ gm_U := gm_U_in (List.mem_of_getElem? (l := lw_tbl) (i := 833) (by decide +kernel)) rfl
theorem gm_u834 : Cond.methodLink RX6 187 yX3_add ∈ gm_U := gm_U_in (List.mem_of_getElem? (l := lw_tbl) (i := 834) (by decide +kernel)) rfl
theorem gm_u835 : Cond.instanceMethod yX3_add ∈ gm_U := gm_U_in (List.mem_of_getElem? (l := lw_tbl) (i := 835) (by decide +kernel)) rfl
theorem gm_u836 : Cond.selects RX3 yX3_add yX3_add ∈ gm_U := gm_U_in (List.mem_of_getElem? (l := lw_tbl) (i := 836) (by decide +kernel)) rfl
theorem gm_u837 : Cond.code yX3_add cX3_add 3 none ∈ gm_U := gm_U_in (List.mem_of_getElem? (l := lw_tbl) (i := 837) (by decide +kernel)) rfl
theorem gm_u838 : Cond.methodLink RL 218 yL_drop ∈ gm_U := gm_U_in (List.mem_of_getElem? (l := lw_tbl) (i := 838) (by decide +kernel)) rfl
theorem gm_u839 : Cond.static yL_drop ∈ gm_U := gm_U_in (List.mem_of_getElem? (l := lw_tbl) (i := 839) (by decide +kernel)) rfl
theorem gm_u840 : Cond.codeWith yL_drop cL_drop 3 (some .int) [(0, 8, 11, 15)] ∈ gm_U := gm_U_in (List.mem_of_getElem? (l := lw_tbl) (i := 840) (by decide +kernel)) rfl
theorem gm_u841 : Cond.methodLink RL 93 yX6_drop ∈ gm_U := gm_U_in (List.mem_of_getElem? (l := lw_tbl) (i := 841) (by decide +kernel)) rfl
theorem gm_u842 : Cond.instanceMethod yX6_drop ∈ gm_U := gm_U_in (List.mem_of_getElem? (l := lw_tbl) (i := 842) (by decide +kernel)) rfl
theorem gm_u843 : Cond.selects RX6 yX6_drop yX6_drop ∈ gm_U := gm_U_in (List.mem_of_getElem? (l := lw_tbl) (i := 843) (by decide +kernel)) rfl
theorem gm_u844 : Cond.code yX6_drop cX6_drop 1 (some .int) ∈ gm_U := gm_U_in (List.mem_of_getElem? (l := lw_tbl) (i := 844) (by decide +kernel)) rfl
theorem gm_u846 : Cond.methodLink RX6 193 yX3_removeLast ∈ gm_U := gm_U_in (List.mem_of_getElem? (l := lw_tbl) (i := 846) (by decide +kernel)) rfl
theorem gm_u847 : Cond.instanceMethod yX3_removeLast ∈ gm_U := gm_U_in (List.mem_of_getElem? (l := lw_tbl) (i := 847) (by decide +kernel)) rfl
theorem gm_u848 : Cond.selects RX3 yX3_removeLast yX3_removeLast ∈ gm_U := gm_U_in (List.mem_of_getElem? (l := lw_tbl) (i := 848) (by decide +kernel)) rfl
theorem gm_u849 : Cond.code yX3_removeLast cX3_removeLast 1 none ∈ gm_U := gm_U_in (List.mem_of_getElem? (l := lw_tbl) (i := 849) (by decide +kernel)) rfl
theorem gm_u850 : Cond.methodLink RL 225 yL_setGoal ∈ gm_U := gm_U_in (List.mem_of_getElem? (l := lw_tbl) (i := 850) (by decide +kernel)) rfl
theorem gm_u851 : Cond.static yL_setGoal ∈ gm_U := gm_U_in (List.mem_of_getElem? (l := lw_tbl) (i := 851) (by decide +kernel)) rfl
theorem gm_u852 : Cond.codeWith yL_setGoal cL_setGoal 6 (some .int) [(0, 19, 22, 13), (0, 19, 26, 27)] ∈ gm_U := gm_U_in (List.mem_of_getElem? (l := lw_tbl) (i := 852) (by decide +kernel)) rfl
theorem gm_u853 : Cond.methodLink RL 96 yX6_setGoal ∈ gm_U := gm_U_in (List.mem_of_getElem? (l := lw_tbl) (i := 853) (by decide +kernel)) rfl
theorem gm_u854 : Cond.instanceMethod yX6_setGoal ∈ gm_U := gm_U_in (List.mem_of_getElem? (l := lw_tbl) (i := 854) (by decide +kernel)) rfl
theorem gm_u855 : Cond.selects RX6 yX6_setGoal yX6_setGoal ∈ gm_U := gm_U_in (List.mem_of_getElem? (l := lw_tbl) (i := 855) (by decide +kernel)) rfl
theorem gm_u856 : Cond.code yX6_setGoal cX6_setGoal 5 (some .boolean) ∈ gm_U := gm_U_in (List.mem_of_getElem? (l := lw_tbl) (i := 856) (by decide +kernel)) rfl
theorem gm_u857 : Cond.methodLink RX6 196 yX3_hasGoal ∈ gm_U := gm_U_in (List.mem_of_getElem? (l := lw_tbl) (i := 857) (by decide +kernel)) rfl
theorem gm_u858 : Cond.instanceMethod yX3_hasGoal ∈ gm_U := gm_U_in (List.mem_of_getElem? (l := lw_tbl) (i := 858) (by decide +kernel)) rfl
theorem gm_u859 : Cond.selects RX3 yX3_hasGoal yX3_hasGoal ∈ gm_U := gm_U_in (List.mem_of_getElem? (l := lw_tbl) (i := 859) (by decide +kernel)) rfl
theorem gm_u860 : Cond.code yX3_hasGoal cX3_hasGoal 1 (some .boolean) ∈ gm_U := gm_U_in (List.mem_of_getElem? (l := lw_tbl) (i := 860) (by decide +kernel)) rfl
theorem gm_u861 : Cond.methodLink RX6 199 yX3_aimAt ∈ gm_U := gm_U_in (List.mem_of_getElem? (l := lw_tbl) (i := 861) (by decide +kernel)) rfl
theorem gm_u862 : Cond.instanceMethod yX3_aimAt ∈ gm_U := gm_U_in (List.mem_of_getElem? (l := lw_tbl) (i := 862) (by decide +kernel)) rfl
theorem gm_u863 : Cond.selects RX3 yX3_aimAt yX3_aimAt ∈ gm_U := gm_U_in (List.mem_of_getElem? (l := lw_tbl) (i := 863) (by decide +kernel)) rfl
theorem gm_u864 : Cond.code yX3_aimAt cX3_aimAt 3 none ∈ gm_U := gm_U_in (List.mem_of_getElem? (l := lw_tbl) (i := 864) (by decide +kernel)) rfl
theorem gm_u865 : Cond.methodLink RL 232 yL_deniedBy ∈ gm_U := gm_U_in (List.mem_of_getElem? (l := lw_tbl) (i := 865) (by decide +kernel)) rfl
theorem gm_u866 : Cond.static yL_deniedBy ∈ gm_U := gm_U_in (List.mem_of_getElem? (l := lw_tbl) (i := 866) (by decide +kernel)) rfl
theorem gm_u867 : Cond.codeWith yL_deniedBy cL_deniedBy 4 (some .int) [(0, 9, 12, 13), (0, 9, 15, 49)] ∈ gm_U := gm_U_in (List.mem_of_getElem? (l := lw_tbl) (i := 867) (by decide +kernel)) rfl
theorem gm_u868 : Cond.methodLink RL 100 yX6_deniedBy ∈ gm_U := gm_U_in (List.mem_of_getElem? (l := lw_tbl) (i := 868) (by decide +kernel)) rfl
theorem gm_u869 : Cond.instanceMethod yX6_deniedBy ∈ gm_U := gm_U_in (List.mem_of_getElem? (l := lw_tbl) (i := 869) (by decide +kernel)) rfl
theorem gm_u870 : Cond.selects RX6 yX6_deniedBy yX6_deniedBy ∈ gm_U := gm_U_in (List.mem_of_getElem? (l := lw_tbl) (i := 870) (by decide +kernel)) rfl
theorem gm_u871 : Cond.code yX6_deniedBy cX6_deniedBy 3 (some .int) ∈ gm_U := gm_U_in (List.mem_of_getElem? (l := lw_tbl) (i := 871) (by decide +kernel)) rfl
theorem gm_u872 : Cond.methodLink RX6 205 yX3_firstDenial ∈ gm_U := gm_U_in (List.mem_of_getElem? (l := lw_tbl) (i := 872) (by decide +kernel)) rfl
theorem gm_u873 : Cond.instanceMethod yX3_firstDenial ∈ gm_U := gm_U_in (List.mem_of_getElem? (l := lw_tbl) (i := 873) (by decide +kernel)) rfl
theorem gm_u874 : Cond.selects RX3 yX3_firstDenial yX3_firstDenial ∈ gm_U := gm_U_in (List.mem_of_getElem? (l := lw_tbl) (i := 874) (by decide +kernel)) rfl
theorem gm_u875 : Cond.code yX3_firstDenial cX3_firstDenial 3 (some .int) ∈ gm_U := gm_U_in (List.mem_of_getElem? (l := lw_tbl) (i := 875) (by decide +kernel)) rfl
theorem gm_u878 : Cond.methodLink RL 235 yL_follows ∈ gm_U := gm_U_in (List.mem_of_getElem? (l := lw_tbl) (i := 878) (by decide +kernel)) rfl
theorem gm_u879 : Cond.static yL_follows ∈ gm_U := gm_U_in (List.mem_of_getElem? (l := lw_tbl) (i := 879) (by decide +kernel)) rfl
theorem gm_u880 : Cond.codeWith yL_follows cL_follows 3 (some .int) [(0, 15, 18, 15)] ∈ gm_U := gm_U_in (List.mem_of_getElem? (l := lw_tbl) (i := 880) (by decide +kernel)) rfl
theorem gm_u881 : Cond.methodLink RL 103 yX6_follows ∈ gm_U := gm_U_in (List.mem_of_getElem? (l := lw_tbl) (i := 881) (by decide +kernel)) rfl
theorem gm_u882 : Cond.instanceMethod yX6_follows ∈ gm_U := gm_U_in (List.mem_of_getElem? (l := lw_tbl) (i := 882) (by decide +kernel)) rfl
theorem gm_u883 : Cond.selects RX6 yX6_follows yX6_follows ∈ gm_U := gm_U_in (List.mem_of_getElem? (l := lw_tbl) (i := 883) (by decide +kernel)) rfl
theorem gm_u884 : Cond.code yX6_follows cX6_follows 1 (some .boolean) ∈ gm_U := gm_U_in (List.mem_of_getElem? (l := lw_tbl) (i := 884) (by decide +kernel)) rfl
theorem gm_u885 : Cond.methodLink RX6 210 yX6_checkGoal ∈ gm_U := gm_U_in (List.mem_of_getElem? (l := lw_tbl) (i := 885) (by decide +kernel)) rfl
theorem gm_u887 : Cond.instanceMethod yX6_checkGoal ∈ gm_U := gm_U_in (List.mem_of_getElem? (l := lw_tbl) (i := 887) (by decide +kernel)) rfl
theorem gm_u888 : Cond.code yX6_checkGoal cX6_checkGoal 1 none ∈ gm_U := gm_U_in (List.mem_of_getElem? (l := lw_tbl) (i := 888) (by decide +kernel)) rfl
theorem gm_u890 : Cond.methodLink RX6 213 yX3_proveGoal ∈ gm_U := gm_U_in (List.mem_of_getElem? (l := lw_tbl) (i := 890) (by decide +kernel)) rfl
theorem gm_u891 : Cond.instanceMethod yX3_proveGoal ∈ gm_U := gm_U_in (List.mem_of_getElem? (l := lw_tbl) (i := 891) (by decide +kernel)) rfl
theorem gm_u892 : Cond.selects RX3 yX3_proveGoal yX3_proveGoal ∈ gm_U := gm_U_in (List.mem_of_getElem? (l := lw_tbl) (i := 892) (by decide +kernel)) rfl
theorem gm_u893 : Cond.code yX3_proveGoal cX3_proveGoal 1 (some .boolean) ∈ gm_U := gm_U_in (List.mem_of_getElem? (l := lw_tbl) (i := 893) (by decide +kernel)) rfl
theorem gm_u894 : Cond.methodLink RX3 53 yX3_firstWitness ∈ gm_U := gm_U_in (List.mem_of_getElem? (l := lw_tbl) (i := 894) (by decide +kernel)) rfl
theorem gm_u895 : Cond.instanceMethod yX3_firstWitness ∈ gm_U := gm_U_in (List.mem_of_getElem? (l := lw_tbl) (i := 895) (by decide +kernel)) rfl
theorem gm_u896 : Cond.selects RX3 yX3_firstWitness yX3_firstWitness ∈ gm_U := gm_U_in (List.mem_of_getElem? (l := lw_tbl) (i := 896) (by decide +kernel)) rfl
theorem gm_u897 : Cond.code yX3_firstWitness cX3_firstWitness 1 (some .int) ∈ gm_U := gm_U_in (List.mem_of_getElem? (l := lw_tbl) (i := 897) (by decide +kernel)) rfl
theorem gm_u898 : Cond.methodLink RX3 56 yX3_haveModel ∈ gm_U := gm_U_in (List.mem_of_getElem? (l := lw_tbl) (i := 898) (by decide +kernel)) rfl
theorem gm_u899 : Cond.methodLink RL 238 yL_why ∈ gm_U := gm_U_in (List.mem_of_getElem? (l := lw_tbl) (i := 899) (by decide +kernel)) rfl
theorem gm_u900 : Cond.static yL_why ∈ gm_U := gm_U_in (List.mem_of_getElem? (l := lw_tbl) (i := 900) (by decide +kernel)) rfl
theorem gm_u901 : Cond.codeWith yL_why cL_why 3 (some .int) [(0, 8, 11, 15), (0, 8, 14, 49)] ∈ gm_U := gm_U_in (List.mem_of_getElem? (l := lw_tbl) (i := 901) (by decide +kernel)) rfl
theorem gm_u902 : Cond.methodLink RL 107 yX6_why ∈ gm_U := gm_U_in (List.mem_of_getElem? (l := lw_tbl) (i := 902) (by decide +kernel)) rfl
theorem gm_u903 : Cond.instanceMethod yX6_why ∈ gm_U := gm_U_in (List.mem_of_getElem? (l := lw_tbl) (i := 903) (by decide +kernel)) rfl
theorem gm_u904 : Cond.selects RX6 yX6_why yX6_why ∈ gm_U := gm_U_in (List.mem_of_getElem? (l := lw_tbl) (i := 904) (by decide +kernel)) rfl
theorem gm_u905 : Cond.code yX6_why cX6_why 1 (some .char) ∈ gm_U := gm_U_in (List.mem_of_getElem? (l := lw_tbl) (i := 905) (by decide +kernel)) rfl
theorem gm_u907 : Cond.methodLink RX6 218 yX3_goalDemands ∈ gm_U := gm_U_in (List.mem_of_getElem? (l := lw_tbl) (i := 907) (by decide +kernel)) rfl
theorem gm_u908 : Cond.instanceMethod yX3_goalDemands ∈ gm_U := gm_U_in (List.mem_of_getElem? (l := lw_tbl) (i := 908) (by decide +kernel)) rfl
theorem gm_u909 : Cond.selects RX3 yX3_goalDemands yX3_goalDemands ∈ gm_U := gm_U_in (List.mem_of_getElem? (l := lw_tbl) (i := 909) (by decide +kernel)) rfl
theorem gm_u910 : Cond.code yX3_goalDemands cX3_goalDemands 1 (some .boolean) ∈ gm_U := gm_U_in (List.mem_of_getElem? (l := lw_tbl) (i := 910) (by decide +kernel)) rfl
theorem gm_u911 : Cond.methodLink RL 241 yL_witness ∈ gm_U := gm_U_in (List.mem_of_getElem? (l := lw_tbl) (i := 911) (by decide +kernel)) rfl
theorem gm_u912 : Cond.static yL_witness ∈ gm_U := gm_U_in (List.mem_of_getElem? (l := lw_tbl) (i := 912) (by decide +kernel)) rfl
theorem gm_u913 : Cond.codeWith yL_witness cL_witness 3 (some .int) [(0, 8, 11, 15), (0, 8, 14, 71), (0, 8, 17, 49)] ∈ gm_U := gm_U_in (List.mem_of_getElem? (l := lw_tbl) (i := 913) (by decide +kernel)) rfl
theorem gm_u914 : Cond.methodLink RL 111 yX6_witness ∈ gm_U := gm_U_in (List.mem_of_getElem? (l := lw_tbl) (i := 914) (by decide +kernel)) rfl
theorem gm_u915 : Cond.instanceMethod yX6_witness ∈ gm_U := gm_U_in (List.mem_of_getElem? (l := lw_tbl) (i := 915) (by decide +kernel)) rfl
theorem gm_u916 : Cond.selects RX6 yX6_witness yX6_witness ∈ gm_U := gm_U_in (List.mem_of_getElem? (l := lw_tbl) (i := 916) (by decide +kernel)) rfl
theorem gm_u917 : Cond.code yX6_witness cX6_witness 2 (some .int) ∈ gm_U := gm_U_in (List.mem_of_getElem? (l := lw_tbl) (i := 917) (by decide +kernel)) rfl
theorem gm_u919 : Cond.methodLink RX6 223 yX3_firstWitness ∈ gm_U := gm_U_in (List.mem_of_getElem? (l := lw_tbl) (i := 919) (by decide +kernel)) rfl
theorem gm_u921 : Cond.methodLink RL 244 yL_elements ∈ gm_U := gm_U_in (List.mem_of_getElem? (l := lw_tbl) (i := 921) (by decide +kernel)) rfl
theorem gm_u922 : Cond.static yL_elements ∈ gm_U := gm_U_in (List.mem_of_getElem? (l := lw_tbl) (i := 922) (by decide +kernel)) rfl
theorem gm_u923 : Cond.codeWith yL_elements cL_elements 3 (some .int) [(0, 8, 11, 15), (0, 8, 14, 49)] ∈ gm_U := gm_U_in (List.mem_of_getElem? (l := lw_tbl) (i := 923) (by decide +kernel)) rfl
theorem gm_u924 : Cond.methodLink RL 114 yX6_elements ∈ gm_U := gm_U_in (List.mem_of_getElem? (l := lw_tbl) (i := 924) (by decide +kernel)) rfl
theorem gm_u925 : Cond.instanceMethod yX6_elements ∈ gm_U := gm_U_in (List.mem_of_getElem? (l := lw_tbl) (i := 925) (by decide +kernel)) rfl
theorem gm_u926 : Cond.selects RX6 yX6_elements yX6_elements ∈ gm_U := gm_U_in (List.mem_of_getElem? (l := lw_tbl) (i := 926) (by decide +kernel)) rfl
theorem gm_u927 : Cond.code yX6_elements cX6_elements 1 (some .int) ∈ gm_U := gm_U_in (List.mem_of_getElem? (l := lw_tbl) (i := 927) (by decide +kernel)) rfl
theorem gm_u928 : Cond.methodLink RX6 235 yX2_prepare ∈ gm_U := gm_U_in (List.mem_of_getElem? (l := lw_tbl) (i := 928) (by decide +kernel)) rfl
theorem gm_u929 : Cond.instanceMethod yX2_prepare ∈ gm_U := gm_U_in (List.mem_of_getElem? (l := lw_tbl) (i := 929) (by decide +kernel)) rfl
theorem gm_u930 : Cond.selects RX2 yX2_prepare yX2_prepare ∈ gm_U := gm_U_in (List.mem_of_getElem? (l := lw_tbl) (i := 930) (by decide +kernel)) rfl
theorem gm_u931 : Cond.code yX2_prepare cX2_prepare 4 none ∈ gm_U := gm_U_in (List.mem_of_getElem? (l := lw_tbl) (i := 931) (by decide +kernel)) rfl
theorem gm_u932 : Cond.methodLink RX2 22 yX3_allowed ∈ gm_U := gm_U_in (List.mem_of_getElem? (l := lw_tbl) (i := 932) (by decide +kernel)) rfl
theorem gm_u933 : Cond.methodLink RX2 28 yX3_goalDemands ∈ gm_U := gm_U_in (List.mem_of_getElem? (l := lw_tbl) (i := 933) (by decide +kernel)) rfl
theorem gm_u934 : Cond.methodLink RX2 32 yX3_goalRegions ∈ gm_U := gm_U_in (List.mem_of_getElem? (l := lw_tbl) (i := 934) (by decide +kernel)) rfl
theorem gm_u935 : Cond.instanceMethod yX3_goalRegions ∈ gm_U := gm_U_in (List.mem_of_getElem? (l := lw_tbl) (i := 935) (by decide +kernel)) rfl
theorem gm_u936 : Cond.selects RX3 yX3_goalRegions yX3_goalRegions ∈ gm_U := gm_U_in (List.mem_of_getElem? (l := lw_tbl) (i := 936) (by decide +kernel)) rfl
theorem gm_u937 : Cond.code yX3_goalRegions cX3_goalRegions 1 (some .int) ∈ gm_U := gm_U_in (List.mem_of_getElem? (l := lw_tbl) (i := 937) (by decide +kernel)) rfl
theorem gm_u938 : Cond.methodLink RX2 35 yX2_want ∈ gm_U := gm_U_in (List.mem_of_getElem? (l := lw_tbl) (i := 938) (by decide +kernel)) rfl
theorem gm_u940 : Cond.instanceMethod yX2_want ∈ gm_U := gm_U_in (List.mem_of_getElem? (l := lw_tbl) (i := 940) (by decide +kernel)) rfl
theorem gm_u941 : Cond.code yX2_want cX2_want 4 none ∈ gm_U := gm_U_in (List.mem_of_getElem? (l := lw_tbl) (i := 941) (by decide +kernel)) rfl
theorem gm_u943 : Cond.methodLink RX2 39 yX3_howMany ∈ gm_U := gm_U_in (List.mem_of_getElem? (l := lw_tbl) (i := 943) (by decide +kernel)) rfl
theorem gm_u944 : Cond.methodLink RX2 42 yX3_demandsElement ∈ gm_U := gm_U_in (List.mem_of_getElem? (l := lw_tbl) (i := 944) (by decide +kernel)) rfl
theorem gm_u945 : Cond.methodLink RX2 46 yX3_placesAt ∈ gm_U := gm_U_in (List.mem_of_getElem? (l := lw_tbl) (i := 945) (by decide +kernel)) rfl
theorem gm_u946 : Cond.methodLink RX6 239 yX2_fewestBySets ∈ gm_U := gm_U_in (List.mem_of_getElem? (l := lw_tbl) (i := 946) (by decide +kernel)) rfl
theorem gm_u947 : Cond.instanceMethod yX2_fewestBySets ∈ gm_U := gm_U_in (List.mem_of_getElem? (l := lw_tbl) (i := 947) (by decide +kernel)) rfl
theorem gm_u948 : Cond.selects RX2 yX2_fewestBySets yX2_fewestBySets ∈ gm_U := gm_U_in (List.mem_of_getElem? (l := lw_tbl) (i := 948) (by decide +kernel)) rfl
theorem gm_u949 : Cond.code yX2_fewestBySets cX2_fewestBySets 6 (some .int) ∈ gm_U := gm_U_in (List.mem_of_getElem? (l := lw_tbl) (i := 949) (by decide +kernel)) rfl
theorem gm_u950 : Cond.methodLink RX2 54 yX2_fewestFrom ∈ gm_U := gm_U_in (List.mem_of_getElem? (l := lw_tbl) (i := 950) (by decide +kernel)) rfl
theorem gm_u952 : Cond.instanceMethod yX2_fewestFrom ∈ gm_U := gm_U_in (List.mem_of_getElem? (l := lw_tbl) (i := 952) (by decide +kernel)) rfl
theorem gm_u953 : Cond.code yX2_fewestFrom cX2_fewestFrom 3 (some .int) ∈ gm_U := gm_U_in (List.mem_of_getElem? (l := lw_tbl) (i := 953) (by decide +kernel)) rfl
theorem gm_u954 : Cond.methodLink RX2 58 yJ9_min_7cf53 ∈ gm_U := gm_U_in (List.mem_of_getElem? (l := lw_tbl) (i := 954) (by decide +kernel)) rfl
theorem gm_u955 : Cond.methodLink RX6 242 yX6_leastOrThrow ∈ gm_U := gm_U_in (List.mem_of_getElem? (l := lw_tbl) (i := 955) (by decide +kernel)) rfl
theorem gm_u957 : Cond.instanceMethod yX6_leastOrThrow ∈ gm_U := gm_U_in (List.mem_of_getElem? (l := lw_tbl) (i := 957) (by decide +kernel)) rfl
theorem gm_u958 : Cond.code yX6_leastOrThrow cX6_leastOrThrow 2 (some .int) ∈ gm_U := gm_U_in (List.mem_of_getElem? (l := lw_tbl) (i := 958) (by decide +kernel)) rfl
theorem gm_u960 : Cond.methodLink RL 247 yL_elementsByTrying ∈ gm_U := gm_U_in (List.mem_of_getElem? (l := lw_tbl) (i := 960) (by decide +kernel)) rfl
theorem gm_u961 : Cond.static yL_elementsByTrying ∈ gm_U := gm_U_in (List.mem_of_getElem? (l := lw_tbl) (i := 961) (by decide +kernel)) rfl
theorem gm_u962 : Cond.codeWith yL_elementsByTrying cL_elementsByTrying 3 (some .int) [(0, 8, 11, 15), (0, 8, 14, 49)] ∈ gm_U := gm_U_in (List.mem_of_getElem? (l := lw_tbl) (i := 962) (by decide +kernel)) rfl
theorem gm_u963 : Cond.methodLink RL 117 yX6_elementsByTrying ∈ gm_U := gm_U_in (List.mem_of_getElem? (l := lw_tbl) (i := 963) (by decide +kernel)) rfl
theorem gm_u964 : Cond.instanceMethod yX6_elementsByTrying ∈ gm_U := gm_U_in (List.mem_of_getElem? (l := lw_tbl) (i := 964) (by decide +kernel)) rfl
theorem gm_u965 : Cond.selects RX6 yX6_elementsByTrying yX6_elementsByTrying ∈ gm_U := gm_U_in (List.mem_of_getElem? (l := lw_tbl) (i := 965) (by decide +kernel)) rfl
theorem gm_u966 : Cond.code yX6_elementsByTrying cX6_elementsByTrying 1 (some .int) ∈ gm_U := gm_U_in (List.mem_of_getElem? (l := lw_tbl) (i := 966) (by decide +kernel)) rfl
theorem gm_u967 : Cond.methodLink RX6 245 yX2_fewestByTrying ∈ gm_U := gm_U_in (List.mem_of_getElem? (l := lw_tbl) (i := 967) (by decide +kernel)) rfl
theorem gm_u968 : Cond.instanceMethod yX2_fewestByTrying ∈ gm_U := gm_U_in (List.mem_of_getElem? (l := lw_tbl) (i := 968) (by decide +kernel)) rfl
theorem gm_u969 : Cond.selects RX2 yX2_fewestByTrying yX2_fewestByTrying ∈ gm_U := gm_U_in (List.mem_of_getElem? (l := lw_tbl) (i := 969) (by decide +kernel)) rfl
theorem gm_u970 : Cond.code yX2_fewestByTrying cX2_fewestByTrying 2 (some .int) ∈ gm_U := gm_U_in (List.mem_of_getElem? (l := lw_tbl) (i := 970) (by decide +kernel)) rfl
theorem gm_u971 : Cond.methodLink RX2 63 yX2_canMeet ∈ gm_U := gm_U_in (List.mem_of_getElem? (l := lw_tbl) (i := 971) (by decide +kernel)) rfl
theorem gm_u973 : Cond.instanceMethod yX2_canMeet ∈ gm_U := gm_U_in (List.mem_of_getElem? (l := lw_tbl) (i := 973) (by decide +kernel)) rfl
theorem gm_u974 : Cond.code yX2_canMeet cX2_canMeet 5 (some .boolean) ∈ gm_U := gm_U_in (List.mem_of_getElem? (l := lw_tbl) (i := 974) (by decide +kernel)) rfl
theorem gm_u975 : Cond.methodLink RL 250 yL_region ∈ gm_U := gm_U_in (List.mem_of_getElem? (l := lw_tbl) (i := 975) (by decide +kernel)) rfl
theorem gm_u976 : Cond.static yL_region ∈ gm_U := gm_U_in (List.mem_of_getElem? (l := lw_tbl) (i := 976) (by decide +kernel)) rfl
theorem gm_u977 : Cond.codeWith yL_region cL_region 4 (some .int) [(0, 9, 12, 15), (0, 9, 15, 49)] ∈ gm_U := gm_U_in (List.mem_of_getElem? (l := lw_tbl) (i := 977) (by decide +kernel)) rfl
theorem gm_u978 : Cond.methodLink RL 120 yX6_region ∈ gm_U := gm_U_in (List.mem_of_getElem? (l := lw_tbl) (i := 978) (by decide +kernel)) rfl
theorem gm_u979 : Cond.instanceMethod yX6_region ∈ gm_U := gm_U_in (List.mem_of_getElem? (l := lw_tbl) (i := 979) (by decide +kernel)) rfl
theorem gm_u980 : Cond.selects RX6 yX6_region yX6_region ∈ gm_U := gm_U_in (List.mem_of_getElem? (l := lw_tbl) (i := 980) (by decide +kernel)) rfl
theorem gm_u981 : Cond.code yX6_region cX6_region 3 (some .int) ∈ gm_U := gm_U_in (List.mem_of_getElem? (l := lw_tbl) (i := 981) (by decide +kernel)) rfl
theorem gm_u982 : Cond.methodLink RX6 248 yX2_regionOf ∈ gm_U := gm_U_in (List.mem_of_getElem? (l := lw_tbl) (i := 982) (by decide +kernel)) rfl
theorem gm_u983 : Cond.instanceMethod yX2_regionOf ∈ gm_U := gm_U_in (List.mem_of_getElem? (l := lw_tbl) (i := 983) (by decide +kernel)) rfl
theorem gm_u984 : Cond.selects RX2 yX2_regionOf yX2_regionOf ∈ gm_U := gm_U_in (List.mem_of_getElem? (l := lw_tbl) (i := 984) (by decide +kernel)) rfl
theorem gm_u985 : Cond.code yX2_regionOf cX2_regionOf 6 (some .int) ∈ gm_U := gm_U_in (List.mem_of_getElem? (l := lw_tbl) (i := 985) (by decide +kernel)) rfl
theorem gm_u987 : Cond.methodLink RL 253 yL_models ∈ gm_U := gm_U_in (List.mem_of_getElem? (l := lw_tbl) (i := 987) (by decide +kernel)) rfl
theorem gm_u988 : Cond.static yL_models ∈ gm_U := gm_U_in (List.mem_of_getElem? (l := lw_tbl) (i := 988) (by decide +kernel)) rfl
theorem gm_u989 : Cond.codeWith yL_models cL_models 4 (some .int) [(0, 8, 11, 13)] ∈ gm_U := gm_U_in (List.mem_of_getElem? (l := lw_tbl) (i := 989) (by decide +kernel)) rfl
theorem gm_u990 : Cond.methodLink RL 123 yX6_models ∈ gm_U := gm_U_in (List.mem_of_getElem? (l := lw_tbl) (i := 990) (by decide +kernel)) rfl
theorem gm_u991 : Cond.instanceMethod yX6_models ∈ gm_U := gm_U_in (List.mem_of_getElem? (l := lw_tbl) (i := 991) (by decide +kernel)) rfl
theorem gm_u992 : Cond.selects RX6 yX6_models yX6_models ∈ gm_U := gm_U_in (List.mem_of_getElem? (l := lw_tbl) (i := 992) (by decide +kernel)) rfl
theorem gm_u993 : Cond.code yX6_models cX6_models 2 (some .long) ∈ gm_U := gm_U_in (List.mem_of_getElem? (l := lw_tbl) (i := 993) (by decide +kernel)) rfl
theorem gm_u994 : Cond.methodLink RX6 253 yX6_checkElements ∈ gm_U := gm_U_in (List.mem_of_getElem? (l := lw_tbl) (i := 994) (by decide +kernel)) rfl
theorem gm_u996 : Cond.instanceMethod yX6_checkElements ∈ gm_U := gm_U_in (List.mem_of_getElem? (l := lw_tbl) (i := 996) (by decide +kernel)) rfl
theorem gm_u997 : Cond.code yX6_checkElements cX6_checkElements 3 none ∈ gm_U := gm_U_in (List.mem_of_getElem? (l := lw_tbl) (i := 997) (by decide +kernel)) rfl
theorem gm_u999 : Cond.methodLink RX6 257 yX3_countModels ∈ gm_U := gm_U_in (List.mem_of_getElem? (l := lw_tbl) (i := 999) (by decide +kernel)) rfl
theorem gm_u1000 : Cond.instanceMethod yX3_countModels ∈ gm_U := gm_U_in (List.mem_of_getElem? (l := lw_tbl) (i := 1000) (by decide +kernel)) rfl
theorem gm_u1001 : Cond.selects RX3 yX3_countModels yX3_countModels ∈ gm_U := gm_U_in (List.mem_of_getElem? (l := lw_tbl) (i := 1001) (by decide +kernel)) rfl
theorem gm_u1002 : Cond.code yX3_countModels cX3_countModels 8 (some .long) ∈ gm_U := gm_U_in (List.mem_of_getElem? (l := lw_tbl) (i := 1002) (by decide +kernel)) rfl
theorem gm_u1003 : Cond.methodLink RX3 60 yX3_isSetOfDemands ∈ gm_U := gm_U_in (List.mem_of_getElem? (l := lw_tbl) (i := 1003) (by decide +kernel)) rfl
theorem gm_u1005 : Cond.instanceMethod yX3_isSetOfDemands ∈ gm_U := gm_U_in (List.mem_of_getElem? (l := lw_tbl) (i := 1005) (by decide +kernel)) rfl
theorem gm_u1006 : Cond.code yX3_isSetOfDemands cX3_isSetOfDemands 3 (some .boolean) ∈ gm_U := gm_U_in (List.mem_of_getElem? (l := lw_tbl) (i := 1006) (by decide +kernel)) rfl
theorem gm_u1007 : Cond.methodLink RX3 63 yX3_placesOfSet ∈ gm_U := gm_U_in (List.mem_of_getElem? (l := lw_tbl) (i := 1007) (by decide +kernel)) rfl
theorem gm_u1009 : Cond.instanceMethod yX3_placesOfSet ∈ gm_U := gm_U_in (List.mem_of_getElem? (l := lw_tbl) (i := 1009) (by decide +kernel)) rfl
theorem gm_u1010 : Cond.code yX3_placesOfSet cX3_placesOfSet 4 (some .int) ∈ gm_U := gm_U_in (List.mem_of_getElem? (l := lw_tbl) (i := 1010) (by decide +kernel)) rfl
theorem gm_u1011 : Cond.methodLink RX3 66 yJ6_bitCount_0f7a4 ∈ gm_U := gm_U_in (List.mem_of_getElem? (l := lw_tbl) (i := 1011) (by decide +kernel)) rfl
theorem gm_u1012 : Cond.methodLink RX3 71 yX3_power ∈ gm_U := gm_U_in (List.mem_of_getElem? (l := lw_tbl) (i := 1012) (by decide +kernel)) rfl
theorem gm_u1013 : Cond.static yX3_power ∈ gm_U := gm_U_in (List.mem_of_getElem? (l := lw_tbl) (i := 1013) (by decide +kernel)) rfl
theorem gm_u1014 : Cond.code yX3_power cX3_power 5 (some .long) ∈ gm_U := gm_U_in (List.mem_of_getElem? (l := lw_tbl) (i := 1014) (by decide +kernel)) rfl
theorem gm_u1015 : Cond.methodLink RL 256 yL_modelsByTrying ∈ gm_U := gm_U_in (List.mem_of_getElem? (l := lw_tbl) (i := 1015) (by decide +kernel)) rfl
theorem gm_u1016 : Cond.static yL_modelsByTrying ∈ gm_U := gm_U_in (List.mem_of_getElem? (l := lw_tbl) (i := 1016) (by decide +kernel)) rfl
theorem gm_u1017 : Cond.codeWith yL_modelsByTrying cL_modelsByTrying 4 (some .int) [(0, 8, 11, 13)] ∈ gm_U := gm_U_in (List.mem_of_getElem? (l := lw_tbl) (i := 1017) (by decide +kernel)) rfl
theorem gm_u1018 : Cond.methodLink RL 127 yX6_modelsByTrying ∈ gm_U := gm_U_in (List.mem_of_getElem? (l := lw_tbl) (i := 1018) (by decide +kernel)) rfl
theorem gm_u1019 : Cond.instanceMethod yX6_modelsByTrying ∈ gm_U := gm_U_in (List.mem_of_getElem? (l := lw_tbl) (i := 1019) (by decide +kernel)) rfl
theorem gm_u1020 : Cond.selects RX6 yX6_modelsByTrying yX6_modelsByTrying ∈ gm_U := gm_U_in (List.mem_of_getElem? (l := lw_tbl) (i := 1020) (by decide +kernel)) rfl
theorem gm_u1021 : Cond.code yX6_modelsByTrying cX6_modelsByTrying 2 (some .long) ∈ gm_U := gm_U_in (List.mem_of_getElem? (l := lw_tbl) (i := 1021) (by decide +kernel)) rfl
theorem gm_u1022 : Cond.methodLink RX6 261 yX3_countModelsByTrying ∈ gm_U := gm_U_in (List.mem_of_getElem? (l := lw_tbl) (i := 1022) (by decide +kernel)) rfl
theorem gm_u1023 : Cond.instanceMethod yX3_countModelsByTrying ∈ gm_U := gm_U_in (List.mem_of_getElem? (l := lw_tbl) (i := 1023) (by decide +kernel)) rfl
theorem gm_u1024 : Cond.selects RX3 yX3_countModelsByTrying yX3_countModelsByTrying ∈ gm_U := gm_U_in (List.mem_of_getElem? (l := lw_tbl) (i := 1024) (by decide +kernel)) rfl
theorem gm_u1025 : Cond.code yX3_countModelsByTrying cX3_countModelsByTrying 8 (some .long) ∈ gm_U := gm_U_in (List.mem_of_getElem? (l := lw_tbl) (i := 1025) (by decide +kernel)) rfl
theorem gm_u1026 : Cond.methodLink RX3 75 yX3_occupiedBy ∈ gm_U := gm_U_in (List.mem_of_getElem? (l := lw_tbl) (i := 1026) (by decide +kernel)) rfl
theorem gm_u1027 : Cond.static yX3_occupiedBy ∈ gm_U := gm_U_in (List.mem_of_getElem? (l := lw_tbl) (i := 1027) (by decide +kernel)) rfl
theorem gm_u1028 : Cond.code yX3_occupiedBy cX3_occupiedBy 5 (some .int) ∈ gm_U := gm_U_in (List.mem_of_getElem? (l := lw_tbl) (i := 1028) (by decide +kernel)) rfl
theorem gm_u1029 : Cond.constantLong RX3 82 (15) ∈ gm_U := gm_U_in (List.mem_of_getElem? (l := lw_tbl) (i := 1029) (by decide +kernel)) rfl
theorem gm_u1030 : Cond.methodLink RX3 79 yX3_allHold ∈ gm_U := gm_U_in (List.mem_of_getElem? (l := lw_tbl) (i := 1030) (by decide +kernel)) rfl
theorem gm_u1032 : Cond.instanceMethod yX3_allHold ∈ gm_U := gm_U_in (List.mem_of_getElem? (l := lw_tbl) (i := 1032) (by decide +kernel)) rfl
theorem gm_u1033 : Cond.code yX3_allHold cX3_allHold 3 (some .boolean) ∈ gm_U := gm_U_in (List.mem_of_getElem? (l := lw_tbl) (i := 1033) (by decide +kernel)) rfl
theorem gm_u1034 : Cond.methodLink RL 259 yL_density ∈ gm_U := gm_U_in (List.mem_of_getElem? (l := lw_tbl) (i := 1034) (by decide +kernel)) rfl
theorem gm_u1035 : Cond.static yL_density ∈ gm_U := gm_U_in (List.mem_of_getElem? (l := lw_tbl) (i := 1035) (by decide +kernel)) rfl
theorem gm_u1036 : Cond.codeWith yL_density cL_density 4 (some .int) [(0, 9, 12, 27)] ∈ gm_U := gm_U_in (List.mem_of_getElem? (l := lw_tbl) (i := 1036) (by decide +kernel)) rfl
theorem gm_u1037 : Cond.methodLink RL 130 yX6_density ∈ gm_U := gm_U_in (List.mem_of_getElem? (l := lw_tbl) (i := 1037) (by decide +kernel)) rfl
theorem gm_u1038 : Cond.instanceMethod yX6_density ∈ gm_U := gm_U_in (List.mem_of_getElem? (l := lw_tbl) (i := 1038) (by decide +kernel)) rfl
theorem gm_u1039 : Cond.selects RX6 yX6_density yX6_density ∈ gm_U := gm_U_in (List.mem_of_getElem? (l := lw_tbl) (i := 1039) (by decide +kernel)) rfl
theorem gm_u1040 : Cond.code yX6_density cX6_density 2 (some .float) ∈ gm_U := gm_U_in (List.mem_of_getElem? (l := lw_tbl) (i := 1040) (by decide +kernel)) rfl
theorem gm_u1041 : Cond.constantFloat RX6 264 (1098907648) ∈ gm_U := gm_U_in (List.mem_of_getElem? (l := lw_tbl) (i := 1041) (by decide +kernel)) rfl
theorem gm_u1042 : Cond.classLink RL 135 RX7 ∈ gm_U := gm_U_in (List.mem_of_getElem? (l := lw_tbl) (i := 1042) (by decide +kernel)) rfl
theorem gm_u1043 : Cond.instantiable RX7 23 ∈ gm_U := gm_U_in (List.mem_of_getElem? (l := lw_tbl) (i := 1043) (by decide +kernel)) rfl
theorem gm_u1044 : Cond.methodLink RL 137 yX7_init ∈ gm_U := gm_U_in (List.mem_of_getElem? (l := lw_tbl) (i := 1044) (by decide +kernel)) rfl
theorem gm_u1045 : Cond.instanceMethod yX7_init ∈ gm_U := gm_U_in (List.mem_of_getElem? (l := lw_tbl) (i := 1045) (by decide +kernel)) rfl
theorem gm_u1046 : Cond.code yX7_init cX7_init 1 none ∈ gm_U := gm_U_in (List.mem_of_getElem? (l := lw_tbl) (i := 1046) (by decide +kernel)) rfl
theorem gm_u1047 : Cond.methodLink RX7 1 objectInit ∈ gm_U := gm_U_in (List.mem_of_getElem? (l := lw_tbl) (i := 1047) (by decide +kernel)) rfl
theorem gm_u1048 : Cond.fieldLink RX7 46 "GimletModel" "thrown" "I" ∈ gm_U := gm_U_in (List.mem_of_getElem? (l := lw_tbl) (i := 1048) (by decide +kernel)) rfl
theorem gm_u1049 : Cond.fieldLink RX7 50 "GimletModel" "terms" "I" ∈ gm_U := gm_U_in (List.mem_of_getElem? (l := lw_tbl) (i := 1049) (by decide +kernel)) rfl
theorem gm_u1050 : Cond.fieldLink RX7 170 "GimletModel" "many" "I" ∈ gm_U := gm_U_in (List.mem_of_getElem? (l := lw_tbl) (i := 1050) (by decide +kernel)) rfl
theorem gm_u1051 : Cond.fieldLink RX7 173 "GimletModel" "hasGoal" "I" ∈ gm_U := gm_U_in (List.mem_of_getElem? (l := lw_tbl) (i := 1051) (by decide +kernel)) rfl
theorem gm_u1052 : Cond.fieldLink RX7 83 "GimletModel" "length" "I" ∈ gm_U := gm_U_in (List.mem_of_getElem? (l := lw_tbl) (i := 1052) (by decide +kernel)) rfl
theorem gm_u1053 : Cond.fieldLink RX7 124 "GimletModel" "read" "I" ∈ gm_U := gm_U_in (List.mem_of_getElem? (l := lw_tbl) (i := 1053) (by decide +kernel)) rfl
theorem gm_u1054 : Cond.fieldLink RX7 188 "GimletModel" "bits" "I" ∈ gm_U := gm_U_in (List.mem_of_getElem? (l := lw_tbl) (i := 1054) (by decide +kernel)) rfl
theorem gm_u1055 : Cond.fieldLink RX7 7 "GimletModel" "kind" "[I" ∈ gm_U := gm_U_in (List.mem_of_getElem? (l := lw_tbl) (i := 1055) (by decide +kernel)) rfl
theorem gm_u1056 : Cond.fieldLink RX7 13 "GimletModel" "left" "[I" ∈ gm_U := gm_U_in (List.mem_of_getElem? (l := lw_tbl) (i := 1056) (by decide +kernel)) rfl
theorem gm_u1057 : Cond.fieldLink RX7 16 "GimletModel" "right" "[I" ∈ gm_U := gm_U_in (List.mem_of_getElem? (l := lw_tbl) (i := 1057) (by decide +kernel)) rfl
theorem gm_u1058 : Cond.fieldLink RX7 19 "GimletModel" "sizes" "[I" ∈ gm_U := gm_U_in (List.mem_of_getElem? (l := lw_tbl) (i := 1058) (by decide +kernel)) rfl
theorem gm_u1059 : Cond.fieldLink RX7 22 "GimletModel" "cover" "[I" ∈ gm_U := gm_U_in (List.mem_of_getElem? (l := lw_tbl) (i := 1059) (by decide +kernel)) rfl
theorem gm_u1060 : Cond.fieldLink RX7 25 "GimletModel" "assumedKind" "[I" ∈ gm_U := gm_U_in (List.mem_of_getElem? (l := lw_tbl) (i := 1060) (by decide +kernel)) rfl
theorem gm_u1061 : Cond.fieldLink RX7 28 "GimletModel" "assumedLeft" "[I" ∈ gm_U := gm_U_in (List.mem_of_getElem? (l := lw_tbl) (i := 1061) (by decide +kernel)) rfl
theorem gm_u1062 : Cond.fieldLink RX7 31 "GimletModel" "assumedRight" "[I" ∈ gm_U := gm_U_in (List.mem_of_getElem? (l := lw_tbl) (i := 1062) (by decide +kernel)) rfl
theorem gm_u1063 : Cond.fieldLink RX7 155 "GimletModel" "goalKind" "I" ∈ gm_U := gm_U_in (List.mem_of_getElem? (l := lw_tbl) (i := 1063) (by decide +kernel)) rfl
theorem gm_u1064 : Cond.fieldLink RX7 158 "GimletModel" "goalLeft" "I" ∈ gm_U := gm_U_in (List.mem_of_getElem? (l := lw_tbl) (i := 1064) (by decide +kernel)) rfl
theorem gm_u1065 : Cond.fieldLink RX7 161 "GimletModel" "goalRight" "I" ∈ gm_U := gm_U_in (List.mem_of_getElem? (l := lw_tbl) (i := 1065) (by decide +kernel)) rfl
theorem gm_u1066 : Cond.fieldLink RX7 34 "GimletModel" "text" "[I" ∈ gm_U := gm_U_in (List.mem_of_getElem? (l := lw_tbl) (i := 1066) (by decide +kernel)) rfl
theorem gm_u1067 : Cond.fieldLink RX7 37 "GimletModel" "next" "[I" ∈ gm_U := gm_U_in (List.mem_of_getElem? (l := lw_tbl) (i := 1067) (by decide +kernel)) rfl
theorem gm_u1068 : Cond.fieldLink RX7 40 "GimletModel" "chosen" "[I" ∈ gm_U := gm_U_in (List.mem_of_getElem? (l := lw_tbl) (i := 1068) (by decide +kernel)) rfl
theorem gm_u1069 : Cond.fieldLink RX7 43 "GimletModel" "demands" "[I" ∈ gm_U := gm_U_in (List.mem_of_getElem? (l := lw_tbl) (i := 1069) (by decide +kernel)) rfl
theorem gm_u1070 : Cond.fieldLink RX7 114 "GimletModel" "put" "I" ∈ gm_U := gm_U_in (List.mem_of_getElem? (l := lw_tbl) (i := 1070) (by decide +kernel)) rfl
theorem gm_u1071 : Cond.lays RX7 "GimletModel" "thrown" "I" ∈ gm_U := gm_U_in (List.mem_of_getElem? (l := lw_tbl) (i := 1071) (by decide +kernel)) rfl
theorem gm_u1073 : Cond.lays RX7 "GimletModel" "terms" "I" ∈ gm_U := gm_U_in (List.mem_of_getElem? (l := lw_tbl) (i := 1073) (by decide +kernel)) rfl
theorem gm_u1075 : Cond.lays RX7 "GimletModel" "many" "I" ∈ gm_U := gm_U_in (List.mem_of_getElem? (l := lw_tbl) (i := 1075) (by decide +kernel)) rfl
theorem gm_u1077 : Cond.lays RX7 "GimletModel" "hasGoal" "I" ∈ gm_U := gm_U_in (List.mem_of_getElem? (l := lw_tbl) (i := 1077) (by decide +kernel)) rfl
theorem gm_u1079 : Cond.lays RX7 "GimletModel" "length" "I" ∈ gm_U := gm_U_in (List.mem_of_getElem? (l := lw_tbl) (i := 1079) (by decide +kernel)) rfl
theorem gm_u1081 : Cond.lays RX7 "GimletModel" "read" "I" ∈ gm_U := gm_U_in (List.mem_of_getElem? (l := lw_tbl) (i := 1081) (by decide +kernel)) rfl
theorem gm_u1083 : Cond.lays RX7 "GimletModel" "bits" "I" ∈ gm_U := gm_U_in (List.mem_of_getElem? (l := lw_tbl) (i := 1083) (by decide +kernel)) rfl
theorem gm_u1085 : Cond.laysFinal RX7 "GimletModel" "kind" "[I" ∈ gm_U := gm_U_in (List.mem_of_getElem? (l := lw_tbl) (i := 1085) (by decide +kernel)) rfl
theorem gm_u1087 : Cond.laysFinal RX7 "GimletModel" "left" "[I" ∈ gm_U := gm_U_in (List.mem_of_getElem? (l := lw_tbl) (i := 1087) (by decide +kernel)) rfl
theorem gm_u1089 : Cond.laysFinal RX7 "GimletModel" "right" "[I" ∈ gm_U := gm_U_in (List.mem_of_getElem? (l := lw_tbl) (i := 1089) (by decide +kernel)) rfl
theorem gm_u1091 : Cond.laysFinal RX7 "GimletModel" "sizes" "[I" ∈ gm_U := gm_U_in (List.mem_of_getElem? (l := lw_tbl) (i := 1091) (by decide +kernel)) rfl
theorem gm_u1093 : Cond.laysFinal RX7 "GimletModel" "cover" "[I" ∈ gm_U := gm_U_in (List.mem_of_getElem? (l := lw_tbl) (i := 1093) (by decide +kernel)) rfl
theorem gm_u1095 : Cond.laysFinal RX7 "GimletModel" "assumedKind" "[I" ∈ gm_U := gm_U_in (List.mem_of_getElem? (l := lw_tbl) (i := 1095) (by decide +kernel)) rfl
theorem gm_u1097 : Cond.laysFinal RX7 "GimletModel" "assumedLeft" "[I" ∈ gm_U := gm_U_in (List.mem_of_getElem? (l := lw_tbl) (i := 1097) (by decide +kernel)) rfl
theorem gm_u1099 : Cond.laysFinal RX7 "GimletModel" "assumedRight" "[I" ∈ gm_U := gm_U_in (List.mem_of_getElem? (l := lw_tbl) (i := 1099) (by decide +kernel)) rfl
theorem gm_u1101 : Cond.lays RX7 "GimletModel" "goalKind" "I" ∈ gm_U := gm_U_in (List.mem_of_getElem? (l := lw_tbl) (i := 1101) (by decide +kernel)) rfl
theorem gm_u1103 : Cond.lays RX7 "GimletModel" "goalLeft" "I" ∈ gm_U := gm_U_in (List.mem_of_getElem? (l := lw_tbl) (i := 1103) (by decide +kernel)) rfl
theorem gm_u1105 : Cond.lays RX7 "GimletModel" "goalRight" "I" ∈ gm_U := gm_U_in (List.mem_of_getElem? (l := lw_tbl) (i := 1105) (by decide +kernel)) rfl
theorem gm_u1107 : Cond.laysFinal RX7 "GimletModel" "text" "[I" ∈ gm_U := gm_U_in (List.mem_of_getElem? (l := lw_tbl) (i := 1107) (by decide +kernel)) rfl
theorem gm_u1109 : Cond.laysFinal RX7 "GimletModel" "next" "[I" ∈ gm_U := gm_U_in (List.mem_of_getElem? (l := lw_tbl) (i := 1109) (by decide +kernel)) rfl
theorem gm_u1111 : Cond.laysFinal RX7 "GimletModel" "chosen" "[I" ∈ gm_U := gm_U_in (List.mem_of_getElem? (l := lw_tbl) (i := 1111) (by decide +kernel)) rfl
theorem gm_u1113 : Cond.laysFinal RX7 "GimletModel" "demands" "[I" ∈ gm_U := gm_U_in (List.mem_of_getElem? (l := lw_tbl) (i := 1113) (by decide +kernel)) rfl
theorem gm_u1115 : Cond.lays RX7 "GimletModel" "put" "I" ∈ gm_U := gm_U_in (List.mem_of_getElem? (l := lw_tbl) (i := 1115) (by decide +kernel)) rfl
theorem gm_u1118 : Cond.methodLink RL 144 yX7_thrown ∈ gm_U := gm_U_in (List.mem_of_getElem? (l := lw_tbl) (i := 1118) (by decide +kernel)) rfl
theorem gm_u1119 : Cond.instanceMethod yX7_thrown ∈ gm_U := gm_U_in (List.mem_of_getElem? (l := lw_tbl) (i := 1119) (by decide +kernel)) rfl
theorem gm_u1120 : Cond.selects RX7 yX7_thrown yX7_thrown ∈ gm_U := gm_U_in (List.mem_of_getElem? (l := lw_tbl) (i := 1120) (by decide +kernel)) rfl
theorem gm_u1121 : Cond.code yX7_thrown cX7_thrown 1 (some .int) ∈ gm_U := gm_U_in (List.mem_of_getElem? (l := lw_tbl) (i := 1121) (by decide +kernel)) rfl
theorem gm_u1122 : Cond.methodLink RL 143 yX7_letter ∈ gm_U := gm_U_in (List.mem_of_getElem? (l := lw_tbl) (i := 1122) (by decide +kernel)) rfl
theorem gm_u1123 : Cond.instanceMethod yX7_letter ∈ gm_U := gm_U_in (List.mem_of_getElem? (l := lw_tbl) (i := 1123) (by decide +kernel)) rfl
theorem gm_u1124 : Cond.selects RX7 yX7_letter yX7_letter ∈ gm_U := gm_U_in (List.mem_of_getElem? (l := lw_tbl) (i := 1124) (by decide +kernel)) rfl
theorem gm_u1125 : Cond.code yX7_letter cX7_letter 2 (some .int) ∈ gm_U := gm_U_in (List.mem_of_getElem? (l := lw_tbl) (i := 1125) (by decide +kernel)) rfl
theorem gm_u1126 : Cond.methodLink RX7 53 yX7_isIn ∈ gm_U := gm_U_in (List.mem_of_getElem? (l := lw_tbl) (i := 1126) (by decide +kernel)) rfl
theorem gm_u1127 : Cond.static yX7_isIn ∈ gm_U := gm_U_in (List.mem_of_getElem? (l := lw_tbl) (i := 1127) (by decide +kernel)) rfl
theorem gm_u1128 : Cond.code yX7_isIn cX7_isIn 3 (some .boolean) ∈ gm_U := gm_U_in (List.mem_of_getElem? (l := lw_tbl) (i := 1128) (by decide +kernel)) rfl
theorem gm_u1129 : Cond.methodLink RX7 66 yX7_fail ∈ gm_U := gm_U_in (List.mem_of_getElem? (l := lw_tbl) (i := 1129) (by decide +kernel)) rfl
theorem gm_u1131 : Cond.instanceMethod yX7_fail ∈ gm_U := gm_U_in (List.mem_of_getElem? (l := lw_tbl) (i := 1131) (by decide +kernel)) rfl
theorem gm_u1132 : Cond.code yX7_fail cX7_fail 2 (some .int) ∈ gm_U := gm_U_in (List.mem_of_getElem? (l := lw_tbl) (i := 1132) (by decide +kernel)) rfl
theorem gm_u1133 : Cond.methodLink RX7 72 yX7_makes ∈ gm_U := gm_U_in (List.mem_of_getElem? (l := lw_tbl) (i := 1133) (by decide +kernel)) rfl
theorem gm_u1135 : Cond.instanceMethod yX7_makes ∈ gm_U := gm_U_in (List.mem_of_getElem? (l := lw_tbl) (i := 1135) (by decide +kernel)) rfl
theorem gm_u1136 : Cond.code yX7_makes cX7_makes 6 (some .int) ∈ gm_U := gm_U_in (List.mem_of_getElem? (l := lw_tbl) (i := 1136) (by decide +kernel)) rfl
theorem gm_u1137 : Cond.methodLink RX7 69 yX7_know ∈ gm_U := gm_U_in (List.mem_of_getElem? (l := lw_tbl) (i := 1137) (by decide +kernel)) rfl
theorem gm_u1139 : Cond.instanceMethod yX7_know ∈ gm_U := gm_U_in (List.mem_of_getElem? (l := lw_tbl) (i := 1139) (by decide +kernel)) rfl
theorem gm_u1140 : Cond.code yX7_know cX7_know 5 (some .int) ∈ gm_U := gm_U_in (List.mem_of_getElem? (l := lw_tbl) (i := 1140) (by decide +kernel)) rfl
theorem gm_u1141 : Cond.methodLink RX7 62 yX7_covered ∈ gm_U := gm_U_in (List.mem_of_getElem? (l := lw_tbl) (i := 1141) (by decide +kernel)) rfl
theorem gm_u1143 : Cond.instanceMethod yX7_covered ∈ gm_U := gm_U_in (List.mem_of_getElem? (l := lw_tbl) (i := 1143) (by decide +kernel)) rfl
theorem gm_u1144 : Cond.code yX7_covered cX7_covered 4 (some .int) ∈ gm_U := gm_U_in (List.mem_of_getElem? (l := lw_tbl) (i := 1144) (by decide +kernel)) rfl
theorem gm_u1145 : Cond.constant RX7 57 (65535) ∈ gm_U := gm_U_in (List.mem_of_getElem? (l := lw_tbl) (i := 1145) (by decide +kernel)) rfl
theorem gm_u1146 : Cond.methodLink RX7 58 yX7_letterCover ∈ gm_U := gm_U_in (List.mem_of_getElem? (l := lw_tbl) (i := 1146) (by decide +kernel)) rfl
theorem gm_u1147 : Cond.static yX7_letterCover ∈ gm_U := gm_U_in (List.mem_of_getElem? (l := lw_tbl) (i := 1147) (by decide +kernel)) rfl
theorem gm_u1148 : Cond.code yX7_letterCover cX7_letterCover 3 (some .int) ∈ gm_U := gm_U_in (List.mem_of_getElem? (l := lw_tbl) (i := 1148) (by decide +kernel)) rfl
theorem gm_u1149 : Cond.methodLink RL 150 yX7_empty ∈ gm_U := gm_U_in (List.mem_of_getElem? (l := lw_tbl) (i := 1149) (by decide +kernel)) rfl
theorem gm_u1150 : Cond.instanceMethod yX7_empty ∈ gm_U := gm_U_in (List.mem_of_getElem? (l := lw_tbl) (i := 1150) (by decide +kernel)) rfl
theorem gm_u1151 : Cond.selects RX7 yX7_empty yX7_empty ∈ gm_U := gm_U_in (List.mem_of_getElem? (l := lw_tbl) (i := 1151) (by decide +kernel)) rfl
theorem gm_u1152 : Cond.code yX7_empty cX7_empty 1 (some .int) ∈ gm_U := gm_U_in (List.mem_of_getElem? (l := lw_tbl) (i := 1152) (by decide +kernel)) rfl
theorem gm_u1153 : Cond.methodLink RL 153 yX7_universe ∈ gm_U := gm_U_in (List.mem_of_getElem? (l := lw_tbl) (i := 1153) (by decide +kernel)) rfl
theorem gm_u1154 : Cond.instanceMethod yX7_universe ∈ gm_U := gm_U_in (List.mem_of_getElem? (l := lw_tbl) (i := 1154) (by decide +kernel)) rfl
theorem gm_u1155 : Cond.selects RX7 yX7_universe yX7_universe ∈ gm_U := gm_U_in (List.mem_of_getElem? (l := lw_tbl) (i := 1155) (by decide +kernel)) rfl
theorem gm_u1156 : Cond.code yX7_universe cX7_universe 1 (some .int) ∈ gm_U := gm_U_in (List.mem_of_getElem? (l := lw_tbl) (i := 1156) (by decide +kernel)) rfl
theorem gm_u1157 : Cond.methodLink RL 156 yX7_complement ∈ gm_U := gm_U_in (List.mem_of_getElem? (l := lw_tbl) (i := 1157) (by decide +kernel)) rfl
theorem gm_u1158 : Cond.instanceMethod yX7_complement ∈ gm_U := gm_U_in (List.mem_of_getElem? (l := lw_tbl) (i := 1158) (by decide +kernel)) rfl
theorem gm_u1159 : Cond.selects RX7 yX7_complement yX7_complement ∈ gm_U := gm_U_in (List.mem_of_getElem? (l := lw_tbl) (i := 1159) (by decide +kernel)) rfl
theorem gm_u1160 : Cond.code yX7_complement cX7_complement 2 (some .int) ∈ gm_U := gm_U_in (List.mem_of_getElem? (l := lw_tbl) (i := 1160) (by decide +kernel)) rfl
theorem gm_u1161 : Cond.methodLink RX7 76 yX7_noTerm ∈ gm_U := gm_U_in (List.mem_of_getElem? (l := lw_tbl) (i := 1161) (by decide +kernel)) rfl
theorem gm_u1163 : Cond.instanceMethod yX7_noTerm ∈ gm_U := gm_U_in (List.mem_of_getElem? (l := lw_tbl) (i := 1163) (by decide +kernel)) rfl
theorem gm_u1164 : Cond.code yX7_noTerm cX7_noTerm 2 (some .boolean) ∈ gm_U := gm_U_in (List.mem_of_getElem? (l := lw_tbl) (i := 1164) (by decide +kernel)) rfl
theorem gm_u1165 : Cond.methodLink RL 160 yX7_union ∈ gm_U := gm_U_in (List.mem_of_getElem? (l := lw_tbl) (i := 1165) (by decide +kernel)) rfl
theorem gm_u1166 : Cond.instanceMethod yX7_union ∈ gm_U := gm_U_in (List.mem_of_getElem? (l := lw_tbl) (i := 1166) (by decide +kernel)) rfl
theorem gm_u1167 : Cond.selects RX7 yX7_union yX7_union ∈ gm_U := gm_U_in (List.mem_of_getElem? (l := lw_tbl) (i := 1167) (by decide +kernel)) rfl
theorem gm_u1168 : Cond.code yX7_union cX7_union 3 (some .int) ∈ gm_U := gm_U_in (List.mem_of_getElem? (l := lw_tbl) (i := 1168) (by decide +kernel)) rfl
theorem gm_u1169 : Cond.methodLink RX7 80 yX7_pair ∈ gm_U := gm_U_in (List.mem_of_getElem? (l := lw_tbl) (i := 1169) (by decide +kernel)) rfl
theorem gm_u1171 : Cond.instanceMethod yX7_pair ∈ gm_U := gm_U_in (List.mem_of_getElem? (l := lw_tbl) (i := 1171) (by decide +kernel)) rfl
theorem gm_u1172 : Cond.code yX7_pair cX7_pair 4 (some .int) ∈ gm_U := gm_U_in (List.mem_of_getElem? (l := lw_tbl) (i := 1172) (by decide +kernel)) rfl
theorem gm_u1173 : Cond.methodLink RL 163 yX7_intersection ∈ gm_U := gm_U_in (List.mem_of_getElem? (l := lw_tbl) (i := 1173) (by decide +kernel)) rfl
theorem gm_u1174 : Cond.instanceMethod yX7_intersection ∈ gm_U := gm_U_in (List.mem_of_getElem? (l := lw_tbl) (i := 1174) (by decide +kernel)) rfl
theorem gm_u1175 : Cond.selects RX7 yX7_intersection yX7_intersection ∈ gm_U := gm_U_in (List.mem_of_getElem? (l := lw_tbl) (i := 1175) (by decide +kernel)) rfl
theorem gm_u1176 : Cond.code yX7_intersection cX7_intersection 3 (some .int) ∈ gm_U := gm_U_in (List.mem_of_getElem? (l := lw_tbl) (i := 1176) (by decide +kernel)) rfl
theorem gm_u1177 : Cond.methodLink RL 166 yX7_difference ∈ gm_U := gm_U_in (List.mem_of_getElem? (l := lw_tbl) (i := 1177) (by decide +kernel)) rfl
theorem gm_u1178 : Cond.instanceMethod yX7_difference ∈ gm_U := gm_U_in (List.mem_of_getElem? (l := lw_tbl) (i := 1178) (by decide +kernel)) rfl
theorem gm_u1179 : Cond.selects RX7 yX7_difference yX7_difference ∈ gm_U := gm_U_in (List.mem_of_getElem? (l := lw_tbl) (i := 1179) (by decide +kernel)) rfl
theorem gm_u1180 : Cond.code yX7_difference cX7_difference 3 (some .int) ∈ gm_U := gm_U_in (List.mem_of_getElem? (l := lw_tbl) (i := 1180) (by decide +kernel)) rfl
theorem gm_u1181 : Cond.methodLink RL 169 yX7_symmetric ∈ gm_U := gm_U_in (List.mem_of_getElem? (l := lw_tbl) (i := 1181) (by decide +kernel)) rfl
theorem gm_u1182 : Cond.instanceMethod yX7_symmetric ∈ gm_U := gm_U_in (List.mem_of_getElem? (l := lw_tbl) (i := 1182) (by decide +kernel)) rfl
theorem gm_u1183 : Cond.selects RX7 yX7_symmetric yX7_symmetric ∈ gm_U := gm_U_in (List.mem_of_getElem? (l := lw_tbl) (i := 1183) (by decide +kernel)) rfl
theorem gm_u1184 : Cond.code yX7_symmetric cX7_symmetric 3 (some .int) ∈ gm_U := gm_U_in (List.mem_of_getElem? (l := lw_tbl) (i := 1184) (by decide +kernel)) rfl
theorem gm_u1185 : Cond.methodLink RL 173 yX7_terms ∈ gm_U := gm_U_in (List.mem_of_getElem? (l := lw_tbl) (i := 1185) (by decide +kernel)) rfl
theorem gm_u1186 : Cond.instanceMethod yX7_terms ∈ gm_U := gm_U_in (List.mem_of_getElem? (l := lw_tbl) (i := 1186) (by decide +kernel)) rfl
theorem gm_u1187 : Cond.selects RX7 yX7_terms yX7_terms ∈ gm_U := gm_U_in (List.mem_of_getElem? (l := lw_tbl) (i := 1187) (by decide +kernel)) rfl
theorem gm_u1188 : Cond.code yX7_terms cX7_terms 1 (some .int) ∈ gm_U := gm_U_in (List.mem_of_getElem? (l := lw_tbl) (i := 1188) (by decide +kernel)) rfl
theorem gm_u1189 : Cond.methodLink RL 176 yX7_size ∈ gm_U := gm_U_in (List.mem_of_getElem? (l := lw_tbl) (i := 1189) (by decide +kernel)) rfl
theorem gm_u1190 : Cond.instanceMethod yX7_size ∈ gm_U := gm_U_in (List.mem_of_getElem? (l := lw_tbl) (i := 1190) (by decide +kernel)) rfl
theorem gm_u1191 : Cond.selects RX7 yX7_size yX7_size ∈ gm_U := gm_U_in (List.mem_of_getElem? (l := lw_tbl) (i := 1191) (by decide +kernel)) rfl
theorem gm_u1192 : Cond.code yX7_size cX7_size 2 (some .int) ∈ gm_U := gm_U_in (List.mem_of_getElem? (l := lw_tbl) (i := 1192) (by decide +kernel)) rfl
theorem gm_u1193 : Cond.methodLink RL 179 yX7_symbol ∈ gm_U := gm_U_in (List.mem_of_getElem? (l := lw_tbl) (i := 1193) (by decide +kernel)) rfl
theorem gm_u1194 : Cond.instanceMethod yX7_symbol ∈ gm_U := gm_U_in (List.mem_of_getElem? (l := lw_tbl) (i := 1194) (by decide +kernel)) rfl
theorem gm_u1195 : Cond.selects RX7 yX7_symbol yX7_symbol ∈ gm_U := gm_U_in (List.mem_of_getElem? (l := lw_tbl) (i := 1195) (by decide +kernel)) rfl
theorem gm_u1196 : Cond.code yX7_symbol cX7_symbol 3 (some .char) ∈ gm_U := gm_U_in (List.mem_of_getElem? (l := lw_tbl) (i := 1196) (by decide +kernel)) rfl
theorem gm_u1197 : Cond.methodLink RX7 90 yX7_spell ∈ gm_U := gm_U_in (List.mem_of_getElem? (l := lw_tbl) (i := 1197) (by decide +kernel)) rfl
theorem gm_u1199 : Cond.instanceMethod yX7_spell ∈ gm_U := gm_U_in (List.mem_of_getElem? (l := lw_tbl) (i := 1199) (by decide +kernel)) rfl
theorem gm_u1200 : Cond.code yX7_spell cX7_spell 2 none ∈ gm_U := gm_U_in (List.mem_of_getElem? (l := lw_tbl) (i := 1200) (by decide +kernel)) rfl
theorem gm_u1201 : Cond.methodLink RX7 86 yX7_write ∈ gm_U := gm_U_in (List.mem_of_getElem? (l := lw_tbl) (i := 1201) (by decide +kernel)) rfl
theorem gm_u1203 : Cond.instanceMethod yX7_write ∈ gm_U := gm_U_in (List.mem_of_getElem? (l := lw_tbl) (i := 1203) (by decide +kernel)) rfl
theorem gm_u1204 : Cond.code yX7_write cX7_write 2 none ∈ gm_U := gm_U_in (List.mem_of_getElem? (l := lw_tbl) (i := 1204) (by decide +kernel)) rfl
theorem gm_u1205 : Cond.methodLink RL 182 yX7_regions ∈ gm_U := gm_U_in (List.mem_of_getElem? (l := lw_tbl) (i := 1205) (by decide +kernel)) rfl
theorem gm_u1206 : Cond.instanceMethod yX7_regions ∈ gm_U := gm_U_in (List.mem_of_getElem? (l := lw_tbl) (i := 1206) (by decide +kernel)) rfl
theorem gm_u1207 : Cond.selects RX7 yX7_regions yX7_regions ∈ gm_U := gm_U_in (List.mem_of_getElem? (l := lw_tbl) (i := 1207) (by decide +kernel)) rfl
theorem gm_u1208 : Cond.code yX7_regions cX7_regions 2 (some .int) ∈ gm_U := gm_U_in (List.mem_of_getElem? (l := lw_tbl) (i := 1208) (by decide +kernel)) rfl
theorem gm_u1209 : Cond.methodLink RX7 93 yJ6_bitCount_0f7a4 ∈ gm_U := gm_U_in (List.mem_of_getElem? (l := lw_tbl) (i := 1209) (by decide +kernel)) rfl
theorem gm_u1210 : Cond.methodLink RL 185 yX7_covers ∈ gm_U := gm_U_in (List.mem_of_getElem? (l := lw_tbl) (i := 1210) (by decide +kernel)) rfl
theorem gm_u1211 : Cond.instanceMethod yX7_covers ∈ gm_U := gm_U_in (List.mem_of_getElem? (l := lw_tbl) (i := 1211) (by decide +kernel)) rfl
theorem gm_u1212 : Cond.selects RX7 yX7_covers yX7_covers ∈ gm_U := gm_U_in (List.mem_of_getElem? (l := lw_tbl) (i := 1212) (by decide +kernel)) rfl
theorem gm_u1213 : Cond.code yX7_covers cX7_covers 3 (some .boolean) ∈ gm_U := gm_U_in (List.mem_of_getElem? (l := lw_tbl) (i := 1213) (by decide +kernel)) rfl
theorem gm_u1214 : Cond.methodLink RL 188 yX7_coversByTerm ∈ gm_U := gm_U_in (List.mem_of_getElem? (l := lw_tbl) (i := 1214) (by decide +kernel)) rfl
theorem gm_u1215 : Cond.instanceMethod yX7_coversByTerm ∈ gm_U := gm_U_in (List.mem_of_getElem? (l := lw_tbl) (i := 1215) (by decide +kernel)) rfl
theorem gm_u1216 : Cond.selects RX7 yX7_coversByTerm yX7_coversByTerm ∈ gm_U := gm_U_in (List.mem_of_getElem? (l := lw_tbl) (i := 1216) (by decide +kernel)) rfl
theorem gm_u1217 : Cond.code yX7_coversByTerm cX7_coversByTerm 3 (some .boolean) ∈ gm_U := gm_U_in (List.mem_of_getElem? (l := lw_tbl) (i := 1217) (by decide +kernel)) rfl
theorem gm_u1218 : Cond.methodLink RX7 98 yX7_covers ∈ gm_U := gm_U_in (List.mem_of_getElem? (l := lw_tbl) (i := 1218) (by decide +kernel)) rfl
theorem gm_u1219 : Cond.methodLink RL 191 yX7_isEqual ∈ gm_U := gm_U_in (List.mem_of_getElem? (l := lw_tbl) (i := 1219) (by decide +kernel)) rfl
theorem gm_u1220 : Cond.instanceMethod yX7_isEqual ∈ gm_U := gm_U_in (List.mem_of_getElem? (l := lw_tbl) (i := 1220) (by decide +kernel)) rfl
theorem gm_u1221 : Cond.selects RX7 yX7_isEqual yX7_isEqual ∈ gm_U := gm_U_in (List.mem_of_getElem? (l := lw_tbl) (i := 1221) (by decide +kernel)) rfl
theorem gm_u1222 : Cond.code yX7_isEqual cX7_isEqual 3 (some .boolean) ∈ gm_U := gm_U_in (List.mem_of_getElem? (l := lw_tbl) (i := 1222) (by decide +kernel)) rfl
theorem gm_u1223 : Cond.methodLink RL 194 yX7_rule ∈ gm_U := gm_U_in (List.mem_of_getElem? (l := lw_tbl) (i := 1223) (by decide +kernel)) rfl
theorem gm_u1224 : Cond.instanceMethod yX7_rule ∈ gm_U := gm_U_in (List.mem_of_getElem? (l := lw_tbl) (i := 1224) (by decide +kernel)) rfl
theorem gm_u1225 : Cond.selects RX7 yX7_rule yX7_rule ∈ gm_U := gm_U_in (List.mem_of_getElem? (l := lw_tbl) (i := 1225) (by decide +kernel)) rfl
theorem gm_u1226 : Cond.code yX7_rule cX7_rule 3 (some .char) ∈ gm_U := gm_U_in (List.mem_of_getElem? (l := lw_tbl) (i := 1226) (by decide +kernel)) rfl
theorem gm_u1227 : Cond.methodLink RX7 131 yX7_place ∈ gm_U := gm_U_in (List.mem_of_getElem? (l := lw_tbl) (i := 1227) (by decide +kernel)) rfl
theorem gm_u1229 : Cond.instanceMethod yX7_place ∈ gm_U := gm_U_in (List.mem_of_getElem? (l := lw_tbl) (i := 1229) (by decide +kernel)) rfl
theorem gm_u1230 : Cond.code yX7_place cX7_place 2 (some .int) ∈ gm_U := gm_U_in (List.mem_of_getElem? (l := lw_tbl) (i := 1230) (by decide +kernel)) rfl
theorem gm_u1231 : Cond.methodLink RX7 111 yX7_ruleAt ∈ gm_U := gm_U_in (List.mem_of_getElem? (l := lw_tbl) (i := 1231) (by decide +kernel)) rfl
theorem gm_u1233 : Cond.instanceMethod yX7_ruleAt ∈ gm_U := gm_U_in (List.mem_of_getElem? (l := lw_tbl) (i := 1233) (by decide +kernel)) rfl
theorem gm_u1234 : Cond.code yX7_ruleAt cX7_ruleAt 7 (some .int) ∈ gm_U := gm_U_in (List.mem_of_getElem? (l := lw_tbl) (i := 1234) (by decide +kernel)) rfl
theorem gm_u1235 : Cond.methodLink RX7 105 yX7_behind ∈ gm_U := gm_U_in (List.mem_of_getElem? (l := lw_tbl) (i := 1235) (by decide +kernel)) rfl
theorem gm_u1237 : Cond.instanceMethod yX7_behind ∈ gm_U := gm_U_in (List.mem_of_getElem? (l := lw_tbl) (i := 1237) (by decide +kernel)) rfl
theorem gm_u1238 : Cond.code yX7_behind cX7_behind 4 (some .int) ∈ gm_U := gm_U_in (List.mem_of_getElem? (l := lw_tbl) (i := 1238) (by decide +kernel)) rfl
theorem gm_u1239 : Cond.methodLink RX7 102 yX7_isPair ∈ gm_U := gm_U_in (List.mem_of_getElem? (l := lw_tbl) (i := 1239) (by decide +kernel)) rfl
theorem gm_u1240 : Cond.static yX7_isPair ∈ gm_U := gm_U_in (List.mem_of_getElem? (l := lw_tbl) (i := 1240) (by decide +kernel)) rfl
theorem gm_u1241 : Cond.code yX7_isPair cX7_isPair 1 (some .boolean) ∈ gm_U := gm_U_in (List.mem_of_getElem? (l := lw_tbl) (i := 1241) (by decide +kernel)) rfl
theorem gm_u1242 : Cond.methodLink RX7 108 yX7_isSame ∈ gm_U := gm_U_in (List.mem_of_getElem? (l := lw_tbl) (i := 1242) (by decide +kernel)) rfl
theorem gm_u1244 : Cond.instanceMethod yX7_isSame ∈ gm_U := gm_U_in (List.mem_of_getElem? (l := lw_tbl) (i := 1244) (by decide +kernel)) rfl
theorem gm_u1245 : Cond.code yX7_isSame cX7_isSame 5 (some .boolean) ∈ gm_U := gm_U_in (List.mem_of_getElem? (l := lw_tbl) (i := 1245) (by decide +kernel)) rfl
theorem gm_u1246 : Cond.methodLink RL 197 yX7_step ∈ gm_U := gm_U_in (List.mem_of_getElem? (l := lw_tbl) (i := 1246) (by decide +kernel)) rfl
theorem gm_u1247 : Cond.instanceMethod yX7_step ∈ gm_U := gm_U_in (List.mem_of_getElem? (l := lw_tbl) (i := 1247) (by decide +kernel)) rfl
theorem gm_u1248 : Cond.selects RX7 yX7_step yX7_step ∈ gm_U := gm_U_in (List.mem_of_getElem? (l := lw_tbl) (i := 1248) (by decide +kernel)) rfl
theorem gm_u1249 : Cond.code yX7_step cX7_step 3 (some .int) ∈ gm_U := gm_U_in (List.mem_of_getElem? (l := lw_tbl) (i := 1249) (by decide +kernel)) rfl
theorem gm_u1250 : Cond.methodLink RX7 134 yX7_rewrite ∈ gm_U := gm_U_in (List.mem_of_getElem? (l := lw_tbl) (i := 1250) (by decide +kernel)) rfl
theorem gm_u1252 : Cond.instanceMethod yX7_rewrite ∈ gm_U := gm_U_in (List.mem_of_getElem? (l := lw_tbl) (i := 1252) (by decide +kernel)) rfl
theorem gm_u1253 : Cond.code yX7_rewrite cX7_rewrite 8 (some .boolean) ∈ gm_U := gm_U_in (List.mem_of_getElem? (l := lw_tbl) (i := 1253) (by decide +kernel)) rfl
theorem gm_u1254 : Cond.methodLink RX7 117 yX7_copies ∈ gm_U := gm_U_in (List.mem_of_getElem? (l := lw_tbl) (i := 1254) (by decide +kernel)) rfl
theorem gm_u1256 : Cond.instanceMethod yX7_copies ∈ gm_U := gm_U_in (List.mem_of_getElem? (l := lw_tbl) (i := 1256) (by decide +kernel)) rfl
theorem gm_u1257 : Cond.code yX7_copies cX7_copies 4 none ∈ gm_U := gm_U_in (List.mem_of_getElem? (l := lw_tbl) (i := 1257) (by decide +kernel)) rfl
theorem gm_u1258 : Cond.methodLink RX7 121 yX7_puts ∈ gm_U := gm_U_in (List.mem_of_getElem? (l := lw_tbl) (i := 1258) (by decide +kernel)) rfl
theorem gm_u1260 : Cond.instanceMethod yX7_puts ∈ gm_U := gm_U_in (List.mem_of_getElem? (l := lw_tbl) (i := 1260) (by decide +kernel)) rfl
theorem gm_u1261 : Cond.code yX7_puts cX7_puts 2 none ∈ gm_U := gm_U_in (List.mem_of_getElem? (l := lw_tbl) (i := 1261) (by decide +kernel)) rfl
theorem gm_u1262 : Cond.methodLink RX7 137 yX7_learns ∈ gm_U := gm_U_in (List.mem_of_getElem? (l := lw_tbl) (i := 1262) (by decide +kernel)) rfl
theorem gm_u1264 : Cond.instanceMethod yX7_learns ∈ gm_U := gm_U_in (List.mem_of_getElem? (l := lw_tbl) (i := 1264) (by decide +kernel)) rfl
theorem gm_u1265 : Cond.code yX7_learns cX7_learns 4 (some .int) ∈ gm_U := gm_U_in (List.mem_of_getElem? (l := lw_tbl) (i := 1265) (by decide +kernel)) rfl
theorem gm_u1266 : Cond.methodLink RX7 127 yX7_parse ∈ gm_U := gm_U_in (List.mem_of_getElem? (l := lw_tbl) (i := 1266) (by decide +kernel)) rfl
theorem gm_u1268 : Cond.instanceMethod yX7_parse ∈ gm_U := gm_U_in (List.mem_of_getElem? (l := lw_tbl) (i := 1268) (by decide +kernel)) rfl
theorem gm_u1269 : Cond.code yX7_parse cX7_parse 4 (some .int) ∈ gm_U := gm_U_in (List.mem_of_getElem? (l := lw_tbl) (i := 1269) (by decide +kernel)) rfl
theorem gm_u1270 : Cond.methodLink RL 200 yX7_steps ∈ gm_U := gm_U_in (List.mem_of_getElem? (l := lw_tbl) (i := 1270) (by decide +kernel)) rfl
theorem gm_u1271 : Cond.instanceMethod yX7_steps ∈ gm_U := gm_U_in (List.mem_of_getElem? (l := lw_tbl) (i := 1271) (by decide +kernel)) rfl
theorem gm_u1272 : Cond.selects RX7 yX7_steps yX7_steps ∈ gm_U := gm_U_in (List.mem_of_getElem? (l := lw_tbl) (i := 1272) (by decide +kernel)) rfl
theorem gm_u1273 : Cond.code yX7_steps cX7_steps 4 (some .int) ∈ gm_U := gm_U_in (List.mem_of_getElem? (l := lw_tbl) (i := 1273) (by decide +kernel)) rfl
theorem gm_u1274 : Cond.methodLink RL 203 yX7_normalForm ∈ gm_U := gm_U_in (List.mem_of_getElem? (l := lw_tbl) (i := 1274) (by decide +kernel)) rfl
theorem gm_u1275 : Cond.instanceMethod yX7_normalForm ∈ gm_U := gm_U_in (List.mem_of_getElem? (l := lw_tbl) (i := 1275) (by decide +kernel)) rfl
theorem gm_u1276 : Cond.selects RX7 yX7_normalForm yX7_normalForm ∈ gm_U := gm_U_in (List.mem_of_getElem? (l := lw_tbl) (i := 1276) (by decide +kernel)) rfl
theorem gm_u1277 : Cond.code yX7_normalForm cX7_normalForm 3 (some .int) ∈ gm_U := gm_U_in (List.mem_of_getElem? (l := lw_tbl) (i := 1277) (by decide +kernel)) rfl
theorem gm_u1278 : Cond.methodLink RL 206 yX7_primes ∈ gm_U := gm_U_in (List.mem_of_getElem? (l := lw_tbl) (i := 1278) (by decide +kernel)) rfl
theorem gm_u1279 : Cond.instanceMethod yX7_primes ∈ gm_U := gm_U_in (List.mem_of_getElem? (l := lw_tbl) (i := 1279) (by decide +kernel)) rfl
theorem gm_u1280 : Cond.selects RX7 yX7_primes yX7_primes ∈ gm_U := gm_U_in (List.mem_of_getElem? (l := lw_tbl) (i := 1280) (by decide +kernel)) rfl
theorem gm_u1281 : Cond.code yX7_primes cX7_primes 4 (some .int) ∈ gm_U := gm_U_in (List.mem_of_getElem? (l := lw_tbl) (i := 1281) (by decide +kernel)) rfl
theorem gm_u1282 : Cond.methodLink RX7 146 yX7_isPrime ∈ gm_U := gm_U_in (List.mem_of_getElem? (l := lw_tbl) (i := 1282) (by decide +kernel)) rfl
theorem gm_u1283 : Cond.static yX7_isPrime ∈ gm_U := gm_U_in (List.mem_of_getElem? (l := lw_tbl) (i := 1283) (by decide +kernel)) rfl
theorem gm_u1284 : Cond.code yX7_isPrime cX7_isPrime 4 (some .boolean) ∈ gm_U := gm_U_in (List.mem_of_getElem? (l := lw_tbl) (i := 1284) (by decide +kernel)) rfl
theorem gm_u1285 : Cond.methodLink RX7 143 yX7_isImplicant ∈ gm_U := gm_U_in (List.mem_of_getElem? (l := lw_tbl) (i := 1285) (by decide +kernel)) rfl
theorem gm_u1286 : Cond.static yX7_isImplicant ∈ gm_U := gm_U_in (List.mem_of_getElem? (l := lw_tbl) (i := 1286) (by decide +kernel)) rfl
theorem gm_u1287 : Cond.code yX7_isImplicant cX7_isImplicant 2 (some .boolean) ∈ gm_U := gm_U_in (List.mem_of_getElem? (l := lw_tbl) (i := 1287) (by decide +kernel)) rfl
theorem gm_u1288 : Cond.methodLink RX7 140 yX7_cube ∈ gm_U := gm_U_in (List.mem_of_getElem? (l := lw_tbl) (i := 1288) (by decide +kernel)) rfl
theorem gm_u1289 : Cond.static yX7_cube ∈ gm_U := gm_U_in (List.mem_of_getElem? (l := lw_tbl) (i := 1289) (by decide +kernel)) rfl
theorem gm_u1290 : Cond.code yX7_cube cX7_cube 5 (some .int) ∈ gm_U := gm_U_in (List.mem_of_getElem? (l := lw_tbl) (i := 1290) (by decide +kernel)) rfl
theorem gm_u1291 : Cond.methodLink RL 209 yX7_primesByTrying ∈ gm_U := gm_U_in (List.mem_of_getElem? (l := lw_tbl) (i := 1291) (by decide +kernel)) rfl
theorem gm_u1292 : Cond.instanceMethod yX7_primesByTrying ∈ gm_U := gm_U_in (List.mem_of_getElem? (l := lw_tbl) (i := 1292) (by decide +kernel)) rfl
theorem gm_u1293 : Cond.selects RX7 yX7_primesByTrying yX7_primesByTrying ∈ gm_U := gm_U_in (List.mem_of_getElem? (l := lw_tbl) (i := 1293) (by decide +kernel)) rfl
theorem gm_u1294 : Cond.code yX7_primesByTrying cX7_primesByTrying 2 (some .int) ∈ gm_U := gm_U_in (List.mem_of_getElem? (l := lw_tbl) (i := 1294) (by decide +kernel)) rfl
theorem gm_u1295 : Cond.methodLink RX7 149 yX7_primes ∈ gm_U := gm_U_in (List.mem_of_getElem? (l := lw_tbl) (i := 1295) (by decide +kernel)) rfl
theorem gm_u1296 : Cond.methodLink RL 213 yX7_prime ∈ gm_U := gm_U_in (List.mem_of_getElem? (l := lw_tbl) (i := 1296) (by decide +kernel)) rfl
theorem gm_u1297 : Cond.instanceMethod yX7_prime ∈ gm_U := gm_U_in (List.mem_of_getElem? (l := lw_tbl) (i := 1297) (by decide +kernel)) rfl
theorem gm_u1298 : Cond.selects RX7 yX7_prime yX7_prime ∈ gm_U := gm_U_in (List.mem_of_getElem? (l := lw_tbl) (i := 1298) (by decide +kernel)) rfl
theorem gm_u1299 : Cond.code yX7_prime cX7_prime 8 (some .char) ∈ gm_U := gm_U_in (List.mem_of_getElem? (l := lw_tbl) (i := 1299) (by decide +kernel)) rfl
theorem gm_u1300 : Cond.methodLink RL 217 yX7_assume ∈ gm_U := gm_U_in (List.mem_of_getElem? (l := lw_tbl) (i := 1300) (by decide +kernel)) rfl
theorem gm_u1301 : Cond.instanceMethod yX7_assume ∈ gm_U := gm_U_in (List.mem_of_getElem? (l := lw_tbl) (i := 1301) (by decide +kernel)) rfl
theorem gm_u1302 : Cond.selects RX7 yX7_assume yX7_assume ∈ gm_U := gm_U_in (List.mem_of_getElem? (l := lw_tbl) (i := 1302) (by decide +kernel)) rfl
theorem gm_u1303 : Cond.code yX7_assume cX7_assume 4 (some .int) ∈ gm_U := gm_U_in (List.mem_of_getElem? (l := lw_tbl) (i := 1303) (by decide +kernel)) rfl
theorem gm_u1304 : Cond.methodLink RX7 164 yX7_isKind ∈ gm_U := gm_U_in (List.mem_of_getElem? (l := lw_tbl) (i := 1304) (by decide +kernel)) rfl
theorem gm_u1305 : Cond.static yX7_isKind ∈ gm_U := gm_U_in (List.mem_of_getElem? (l := lw_tbl) (i := 1305) (by decide +kernel)) rfl
theorem gm_u1306 : Cond.code yX7_isKind cX7_isKind 1 (some .boolean) ∈ gm_U := gm_U_in (List.mem_of_getElem? (l := lw_tbl) (i := 1306) (by decide +kernel)) rfl
theorem gm_u1307 : Cond.methodLink RX7 167 yX7_areTerms ∈ gm_U := gm_U_in (List.mem_of_getElem? (l := lw_tbl) (i := 1307) (by decide +kernel)) rfl
theorem gm_u1309 : Cond.instanceMethod yX7_areTerms ∈ gm_U := gm_U_in (List.mem_of_getElem? (l := lw_tbl) (i := 1309) (by decide +kernel)) rfl
theorem gm_u1310 : Cond.code yX7_areTerms cX7_areTerms 3 (some .boolean) ∈ gm_U := gm_U_in (List.mem_of_getElem? (l := lw_tbl) (i := 1310) (by decide +kernel)) rfl
theorem gm_u1311 : Cond.methodLink RL 220 yX7_drop ∈ gm_U := gm_U_in (List.mem_of_getElem? (l := lw_tbl) (i := 1311) (by decide +kernel)) rfl
theorem gm_u1312 : Cond.instanceMethod yX7_drop ∈ gm_U := gm_U_in (List.mem_of_getElem? (l := lw_tbl) (i := 1312) (by decide +kernel)) rfl
theorem gm_u1313 : Cond.selects RX7 yX7_drop yX7_drop ∈ gm_U := gm_U_in (List.mem_of_getElem? (l := lw_tbl) (i := 1313) (by decide +kernel)) rfl
theorem gm_u1314 : Cond.code yX7_drop cX7_drop 1 (some .int) ∈ gm_U := gm_U_in (List.mem_of_getElem? (l := lw_tbl) (i := 1314) (by decide +kernel)) rfl
theorem gm_u1315 : Cond.methodLink RL 224 yX7_assumptions ∈ gm_U := gm_U_in (List.mem_of_getElem? (l := lw_tbl) (i := 1315) (by decide +kernel)) rfl
theorem gm_u1316 : Cond.instanceMethod yX7_assumptions ∈ gm_U := gm_U_in (List.mem_of_getElem? (l := lw_tbl) (i := 1316) (by decide +kernel)) rfl
theorem gm_u1317 : Cond.selects RX7 yX7_assumptions yX7_assumptions ∈ gm_U := gm_U_in (List.mem_of_getElem? (l := lw_tbl) (i := 1317) (by decide +kernel)) rfl
theorem gm_u1318 : Cond.code yX7_assumptions cX7_assumptions 1 (some .int) ∈ gm_U := gm_U_in (List.mem_of_getElem? (l := lw_tbl) (i := 1318) (by decide +kernel)) rfl
theorem gm_u1319 : Cond.methodLink RL 227 yX7_setGoal ∈ gm_U := gm_U_in (List.mem_of_getElem? (l := lw_tbl) (i := 1319) (by decide +kernel)) rfl
theorem gm_u1320 : Cond.instanceMethod yX7_setGoal ∈ gm_U := gm_U_in (List.mem_of_getElem? (l := lw_tbl) (i := 1320) (by decide +kernel)) rfl
theorem gm_u1321 : Cond.selects RX7 yX7_setGoal yX7_setGoal ∈ gm_U := gm_U_in (List.mem_of_getElem? (l := lw_tbl) (i := 1321) (by decide +kernel)) rfl
theorem gm_u1322 : Cond.code yX7_setGoal cX7_setGoal 5 (some .boolean) ∈ gm_U := gm_U_in (List.mem_of_getElem? (l := lw_tbl) (i := 1322) (by decide +kernel)) rfl
theorem gm_u1323 : Cond.methodLink RL 231 yX7_isConsistent ∈ gm_U := gm_U_in (List.mem_of_getElem? (l := lw_tbl) (i := 1323) (by decide +kernel)) rfl
theorem gm_u1324 : Cond.instanceMethod yX7_isConsistent ∈ gm_U := gm_U_in (List.mem_of_getElem? (l := lw_tbl) (i := 1324) (by decide +kernel)) rfl
theorem gm_u1325 : Cond.selects RX7 yX7_isConsistent yX7_isConsistent ∈ gm_U := gm_U_in (List.mem_of_getElem? (l := lw_tbl) (i := 1325) (by decide +kernel)) rfl
theorem gm_u1326 : Cond.code yX7_isConsistent cX7_isConsistent 1 (some .boolean) ∈ gm_U := gm_U_in (List.mem_of_getElem? (l := lw_tbl) (i := 1326) (by decide +kernel)) rfl
theorem gm_u1327 : Cond.methodLink RX7 182 yX7_allowed ∈ gm_U := gm_U_in (List.mem_of_getElem? (l := lw_tbl) (i := 1327) (by decide +kernel)) rfl
theorem gm_u1329 : Cond.instanceMethod yX7_allowed ∈ gm_U := gm_U_in (List.mem_of_getElem? (l := lw_tbl) (i := 1329) (by decide +kernel)) rfl
theorem gm_u1330 : Cond.code yX7_allowed cX7_allowed 3 (some .int) ∈ gm_U := gm_U_in (List.mem_of_getElem? (l := lw_tbl) (i := 1330) (by decide +kernel)) rfl
theorem gm_u1331 : Cond.methodLink RX7 176 yX7_isDemand ∈ gm_U := gm_U_in (List.mem_of_getElem? (l := lw_tbl) (i := 1331) (by decide +kernel)) rfl
theorem gm_u1332 : Cond.static yX7_isDemand ∈ gm_U := gm_U_in (List.mem_of_getElem? (l := lw_tbl) (i := 1332) (by decide +kernel)) rfl
theorem gm_u1333 : Cond.code yX7_isDemand cX7_isDemand 1 (some .boolean) ∈ gm_U := gm_U_in (List.mem_of_getElem? (l := lw_tbl) (i := 1333) (by decide +kernel)) rfl
theorem gm_u1334 : Cond.methodLink RX7 179 yX7_assumed ∈ gm_U := gm_U_in (List.mem_of_getElem? (l := lw_tbl) (i := 1334) (by decide +kernel)) rfl
theorem gm_u1336 : Cond.instanceMethod yX7_assumed ∈ gm_U := gm_U_in (List.mem_of_getElem? (l := lw_tbl) (i := 1336) (by decide +kernel)) rfl
theorem gm_u1337 : Cond.code yX7_assumed cX7_assumed 2 (some .int) ∈ gm_U := gm_U_in (List.mem_of_getElem? (l := lw_tbl) (i := 1337) (by decide +kernel)) rfl
theorem gm_u1338 : Cond.methodLink RX7 152 yX7_regionsOf ∈ gm_U := gm_U_in (List.mem_of_getElem? (l := lw_tbl) (i := 1338) (by decide +kernel)) rfl
theorem gm_u1340 : Cond.instanceMethod yX7_regionsOf ∈ gm_U := gm_U_in (List.mem_of_getElem? (l := lw_tbl) (i := 1340) (by decide +kernel)) rfl
theorem gm_u1341 : Cond.code yX7_regionsOf cX7_regionsOf 4 (some .int) ∈ gm_U := gm_U_in (List.mem_of_getElem? (l := lw_tbl) (i := 1341) (by decide +kernel)) rfl
theorem gm_u1342 : Cond.methodLink RX7 185 yX7_hasModel ∈ gm_U := gm_U_in (List.mem_of_getElem? (l := lw_tbl) (i := 1342) (by decide +kernel)) rfl
theorem gm_u1344 : Cond.instanceMethod yX7_hasModel ∈ gm_U := gm_U_in (List.mem_of_getElem? (l := lw_tbl) (i := 1344) (by decide +kernel)) rfl
theorem gm_u1345 : Cond.code yX7_hasModel cX7_hasModel 3 (some .boolean) ∈ gm_U := gm_U_in (List.mem_of_getElem? (l := lw_tbl) (i := 1345) (by decide +kernel)) rfl
theorem gm_u1346 : Cond.methodLink RL 234 yX7_deniedBy ∈ gm_U := gm_U_in (List.mem_of_getElem? (l := lw_tbl) (i := 1346) (by decide +kernel)) rfl
theorem gm_u1347 : Cond.instanceMethod yX7_deniedBy ∈ gm_U := gm_U_in (List.mem_of_getElem? (l := lw_tbl) (i := 1347) (by decide +kernel)) rfl
theorem gm_u1348 : Cond.selects RX7 yX7_deniedBy yX7_deniedBy ∈ gm_U := gm_U_in (List.mem_of_getElem? (l := lw_tbl) (i := 1348) (by decide +kernel)) rfl
theorem gm_u1349 : Cond.code yX7_deniedBy cX7_deniedBy 3 (some .int) ∈ gm_U := gm_U_in (List.mem_of_getElem? (l := lw_tbl) (i := 1349) (by decide +kernel)) rfl
theorem gm_u1350 : Cond.methodLink RL 237 yX7_follows ∈ gm_U := gm_U_in (List.mem_of_getElem? (l := lw_tbl) (i := 1350) (by decide +kernel)) rfl
theorem gm_u1351 : Cond.instanceMethod yX7_follows ∈ gm_U := gm_U_in (List.mem_of_getElem? (l := lw_tbl) (i := 1351) (by decide +kernel)) rfl
theorem gm_u1352 : Cond.selects RX7 yX7_follows yX7_follows ∈ gm_U := gm_U_in (List.mem_of_getElem? (l := lw_tbl) (i := 1352) (by decide +kernel)) rfl
theorem gm_u1353 : Cond.code yX7_follows cX7_follows 1 (some .boolean) ∈ gm_U := gm_U_in (List.mem_of_getElem? (l := lw_tbl) (i := 1353) (by decide +kernel)) rfl
theorem gm_u1354 : Cond.methodLink RX7 197 yX7_noGoal ∈ gm_U := gm_U_in (List.mem_of_getElem? (l := lw_tbl) (i := 1354) (by decide +kernel)) rfl
theorem gm_u1356 : Cond.instanceMethod yX7_noGoal ∈ gm_U := gm_U_in (List.mem_of_getElem? (l := lw_tbl) (i := 1356) (by decide +kernel)) rfl
theorem gm_u1357 : Cond.code yX7_noGoal cX7_noGoal 1 (some .boolean) ∈ gm_U := gm_U_in (List.mem_of_getElem? (l := lw_tbl) (i := 1357) (by decide +kernel)) rfl
theorem gm_u1358 : Cond.methodLink RX7 201 yX7_isFollowing ∈ gm_U := gm_U_in (List.mem_of_getElem? (l := lw_tbl) (i := 1358) (by decide +kernel)) rfl
theorem gm_u1360 : Cond.instanceMethod yX7_isFollowing ∈ gm_U := gm_U_in (List.mem_of_getElem? (l := lw_tbl) (i := 1360) (by decide +kernel)) rfl
theorem gm_u1361 : Cond.code yX7_isFollowing cX7_isFollowing 3 (some .boolean) ∈ gm_U := gm_U_in (List.mem_of_getElem? (l := lw_tbl) (i := 1361) (by decide +kernel)) rfl
theorem gm_u1362 : Cond.methodLink RX7 194 yX7_counter ∈ gm_U := gm_U_in (List.mem_of_getElem? (l := lw_tbl) (i := 1362) (by decide +kernel)) rfl
theorem gm_u1364 : Cond.instanceMethod yX7_counter ∈ gm_U := gm_U_in (List.mem_of_getElem? (l := lw_tbl) (i := 1364) (by decide +kernel)) rfl
theorem gm_u1365 : Cond.code yX7_counter cX7_counter 3 (some .int) ∈ gm_U := gm_U_in (List.mem_of_getElem? (l := lw_tbl) (i := 1365) (by decide +kernel)) rfl
theorem gm_u1366 : Cond.methodLink RX7 191 yX7_goal ∈ gm_U := gm_U_in (List.mem_of_getElem? (l := lw_tbl) (i := 1366) (by decide +kernel)) rfl
theorem gm_u1368 : Cond.instanceMethod yX7_goal ∈ gm_U := gm_U_in (List.mem_of_getElem? (l := lw_tbl) (i := 1368) (by decide +kernel)) rfl
theorem gm_u1369 : Cond.code yX7_goal cX7_goal 1 (some .int) ∈ gm_U := gm_U_in (List.mem_of_getElem? (l := lw_tbl) (i := 1369) (by decide +kernel)) rfl
theorem gm_u1370 : Cond.methodLink RL 240 yX7_why ∈ gm_U := gm_U_in (List.mem_of_getElem? (l := lw_tbl) (i := 1370) (by decide +kernel)) rfl
theorem gm_u1371 : Cond.instanceMethod yX7_why ∈ gm_U := gm_U_in (List.mem_of_getElem? (l := lw_tbl) (i := 1371) (by decide +kernel)) rfl
theorem gm_u1372 : Cond.selects RX7 yX7_why yX7_why ∈ gm_U := gm_U_in (List.mem_of_getElem? (l := lw_tbl) (i := 1372) (by decide +kernel)) rfl
theorem gm_u1373 : Cond.code yX7_why cX7_why 1 (some .char) ∈ gm_U := gm_U_in (List.mem_of_getElem? (l := lw_tbl) (i := 1373) (by decide +kernel)) rfl
theorem gm_u1374 : Cond.methodLink RX7 204 yX7_isConsistent ∈ gm_U := gm_U_in (List.mem_of_getElem? (l := lw_tbl) (i := 1374) (by decide +kernel)) rfl
theorem gm_u1375 : Cond.methodLink RL 243 yX7_witness ∈ gm_U := gm_U_in (List.mem_of_getElem? (l := lw_tbl) (i := 1375) (by decide +kernel)) rfl
theorem gm_u1376 : Cond.instanceMethod yX7_witness ∈ gm_U := gm_U_in (List.mem_of_getElem? (l := lw_tbl) (i := 1376) (by decide +kernel)) rfl
theorem gm_u1377 : Cond.selects RX7 yX7_witness yX7_witness ∈ gm_U := gm_U_in (List.mem_of_getElem? (l := lw_tbl) (i := 1377) (by decide +kernel)) rfl
theorem gm_u1378 : Cond.code yX7_witness cX7_witness 3 (some .int) ∈ gm_U := gm_U_in (List.mem_of_getElem? (l := lw_tbl) (i := 1378) (by decide +kernel)) rfl
theorem gm_u1379 : Cond.methodLink RL 246 yX7_elements ∈ gm_U := gm_U_in (List.mem_of_getElem? (l := lw_tbl) (i := 1379) (by decide +kernel)) rfl
theorem gm_u1380 : Cond.instanceMethod yX7_elements ∈ gm_U := gm_U_in (List.mem_of_getElem? (l := lw_tbl) (i := 1380) (by decide +kernel)) rfl
theorem gm_u1381 : Cond.selects RX7 yX7_elements yX7_elements ∈ gm_U := gm_U_in (List.mem_of_getElem? (l := lw_tbl) (i := 1381) (by decide +kernel)) rfl
theorem gm_u1382 : Cond.code yX7_elements cX7_elements 1 (some .int) ∈ gm_U := gm_U_in (List.mem_of_getElem? (l := lw_tbl) (i := 1382) (by decide +kernel)) rfl
theorem gm_u1383 : Cond.methodLink RX7 211 yX7_noCounterexample ∈ gm_U := gm_U_in (List.mem_of_getElem? (l := lw_tbl) (i := 1383) (by decide +kernel)) rfl
theorem gm_u1385 : Cond.instanceMethod yX7_noCounterexample ∈ gm_U := gm_U_in (List.mem_of_getElem? (l := lw_tbl) (i := 1385) (by decide +kernel)) rfl
theorem gm_u1386 : Cond.code yX7_noCounterexample cX7_noCounterexample 1 (some .boolean) ∈ gm_U := gm_U_in (List.mem_of_getElem? (l := lw_tbl) (i := 1386) (by decide +kernel)) rfl
theorem gm_u1387 : Cond.methodLink RX7 214 yX7_least ∈ gm_U := gm_U_in (List.mem_of_getElem? (l := lw_tbl) (i := 1387) (by decide +kernel)) rfl
theorem gm_u1389 : Cond.instanceMethod yX7_least ∈ gm_U := gm_U_in (List.mem_of_getElem? (l := lw_tbl) (i := 1389) (by decide +kernel)) rfl
theorem gm_u1390 : Cond.code yX7_least cX7_least 3 (some .int) ∈ gm_U := gm_U_in (List.mem_of_getElem? (l := lw_tbl) (i := 1390) (by decide +kernel)) rfl
theorem gm_u1391 : Cond.methodLink RX7 207 yX7_choose ∈ gm_U := gm_U_in (List.mem_of_getElem? (l := lw_tbl) (i := 1391) (by decide +kernel)) rfl
theorem gm_u1393 : Cond.instanceMethod yX7_choose ∈ gm_U := gm_U_in (List.mem_of_getElem? (l := lw_tbl) (i := 1393) (by decide +kernel)) rfl
theorem gm_u1394 : Cond.code yX7_choose cX7_choose 7 (some .boolean) ∈ gm_U := gm_U_in (List.mem_of_getElem? (l := lw_tbl) (i := 1394) (by decide +kernel)) rfl
theorem gm_u1395 : Cond.methodLink RL 249 yX7_elementsByTrying ∈ gm_U := gm_U_in (List.mem_of_getElem? (l := lw_tbl) (i := 1395) (by decide +kernel)) rfl
theorem gm_u1396 : Cond.instanceMethod yX7_elementsByTrying ∈ gm_U := gm_U_in (List.mem_of_getElem? (l := lw_tbl) (i := 1396) (by decide +kernel)) rfl
theorem gm_u1397 : Cond.selects RX7 yX7_elementsByTrying yX7_elementsByTrying ∈ gm_U := gm_U_in (List.mem_of_getElem? (l := lw_tbl) (i := 1397) (by decide +kernel)) rfl
theorem gm_u1398 : Cond.code yX7_elementsByTrying cX7_elementsByTrying 1 (some .int) ∈ gm_U := gm_U_in (List.mem_of_getElem? (l := lw_tbl) (i := 1398) (by decide +kernel)) rfl
theorem gm_u1399 : Cond.methodLink RX7 217 yX7_elements ∈ gm_U := gm_U_in (List.mem_of_getElem? (l := lw_tbl) (i := 1399) (by decide +kernel)) rfl
theorem gm_u1400 : Cond.methodLink RL 252 yX7_region ∈ gm_U := gm_U_in (List.mem_of_getElem? (l := lw_tbl) (i := 1400) (by decide +kernel)) rfl
theorem gm_u1401 : Cond.instanceMethod yX7_region ∈ gm_U := gm_U_in (List.mem_of_getElem? (l := lw_tbl) (i := 1401) (by decide +kernel)) rfl
theorem gm_u1402 : Cond.selects RX7 yX7_region yX7_region ∈ gm_U := gm_U_in (List.mem_of_getElem? (l := lw_tbl) (i := 1402) (by decide +kernel)) rfl
theorem gm_u1403 : Cond.code yX7_region cX7_region 3 (some .int) ∈ gm_U := gm_U_in (List.mem_of_getElem? (l := lw_tbl) (i := 1403) (by decide +kernel)) rfl
theorem gm_u1404 : Cond.methodLink RL 255 yX7_models ∈ gm_U := gm_U_in (List.mem_of_getElem? (l := lw_tbl) (i := 1404) (by decide +kernel)) rfl
theorem gm_u1405 : Cond.instanceMethod yX7_models ∈ gm_U := gm_U_in (List.mem_of_getElem? (l := lw_tbl) (i := 1405) (by decide +kernel)) rfl
theorem gm_u1406 : Cond.selects RX7 yX7_models yX7_models ∈ gm_U := gm_U_in (List.mem_of_getElem? (l := lw_tbl) (i := 1406) (by decide +kernel)) rfl
theorem gm_u1407 : Cond.code yX7_models cX7_models 2 (some .long) ∈ gm_U := gm_U_in (List.mem_of_getElem? (l := lw_tbl) (i := 1407) (by decide +kernel)) rfl
theorem gm_u1408 : Cond.methodLink RX7 226 yX7_ways ∈ gm_U := gm_U_in (List.mem_of_getElem? (l := lw_tbl) (i := 1408) (by decide +kernel)) rfl
theorem gm_u1410 : Cond.instanceMethod yX7_ways ∈ gm_U := gm_U_in (List.mem_of_getElem? (l := lw_tbl) (i := 1410) (by decide +kernel)) rfl
theorem gm_u1411 : Cond.code yX7_ways cX7_ways 9 (some .long) ∈ gm_U := gm_U_in (List.mem_of_getElem? (l := lw_tbl) (i := 1411) (by decide +kernel)) rfl
theorem gm_u1412 : Cond.constantLong RX7 220 (-1) ∈ gm_U := gm_U_in (List.mem_of_getElem? (l := lw_tbl) (i := 1412) (by decide +kernel)) rfl
theorem gm_u1413 : Cond.methodLink RX7 222 yX7_power ∈ gm_U := gm_U_in (List.mem_of_getElem? (l := lw_tbl) (i := 1413) (by decide +kernel)) rfl
theorem gm_u1414 : Cond.static yX7_power ∈ gm_U := gm_U_in (List.mem_of_getElem? (l := lw_tbl) (i := 1414) (by decide +kernel)) rfl
theorem gm_u1415 : Cond.code yX7_power cX7_power 5 (some .long) ∈ gm_U := gm_U_in (List.mem_of_getElem? (l := lw_tbl) (i := 1415) (by decide +kernel)) rfl
theorem gm_u1416 : Cond.methodLink RL 258 yX7_modelsByTrying ∈ gm_U := gm_U_in (List.mem_of_getElem? (l := lw_tbl) (i := 1416) (by decide +kernel)) rfl
theorem gm_u1417 : Cond.instanceMethod yX7_modelsByTrying ∈ gm_U := gm_U_in (List.mem_of_getElem? (l := lw_tbl) (i := 1417) (by decide +kernel)) rfl
theorem gm_u1418 : Cond.selects RX7 yX7_modelsByTrying yX7_modelsByTrying ∈ gm_U := gm_U_in (List.mem_of_getElem? (l := lw_tbl) (i := 1418) (by decide +kernel)) rfl
theorem gm_u1419 : Cond.code yX7_modelsByTrying cX7_modelsByTrying 2 (some .long) ∈ gm_U := gm_U_in (List.mem_of_getElem? (l := lw_tbl) (i := 1419) (by decide +kernel)) rfl
theorem gm_u1420 : Cond.methodLink RL 262 yX7_density ∈ gm_U := gm_U_in (List.mem_of_getElem? (l := lw_tbl) (i := 1420) (by decide +kernel)) rfl
theorem gm_u1421 : Cond.instanceMethod yX7_density ∈ gm_U := gm_U_in (List.mem_of_getElem? (l := lw_tbl) (i := 1421) (by decide +kernel)) rfl
theorem gm_u1422 : Cond.selects RX7 yX7_density yX7_density ∈ gm_U := gm_U_in (List.mem_of_getElem? (l := lw_tbl) (i := 1422) (by decide +kernel)) rfl
theorem gm_u1423 : Cond.code yX7_density cX7_density 2 (some .float) ∈ gm_U := gm_U_in (List.mem_of_getElem? (l := lw_tbl) (i := 1423) (by decide +kernel)) rfl
theorem gm_u1424 : Cond.constantFloat RX7 230 (1098907648) ∈ gm_U := gm_U_in (List.mem_of_getElem? (l := lw_tbl) (i := 1424) (by decide +kernel)) rfl
theorem gm_u1425 : Cond.arrayClass .long ∈ gm_U := gm_U_in (List.mem_of_getElem? (l := lw_tbl) (i := 1425) (by decide +kernel)) rfl
theorem gm_u1426 : Cond.arrayClass .double ∈ gm_U := gm_U_in (List.mem_of_getElem? (l := lw_tbl) (i := 1426) (by decide +kernel)) rfl
