/-! RUNNING the abstract machine: many instructions in one go -/
section GR
variable {M : pM} {tyf : Nat → Nat → FieldType} {sq : pQ} {Sp : pS} {G G2 : pG} {X : pX}
theorem gm_jmp_mono {pc : Nat} {o : Int} {f g : Nat → Prop} (hfg : ∀ t, f t → g t) (h : gm_jmp pc o f) : gm_jmp pc o g := by
  unfold gm_jmp at h ⊢
  split at h
  · exact hfg _ h
  · exact h.elim
theorem gm_look_mono {pc : Nat} {d : Int} {x : Int32} {f g : Nat → Prop} (hfg : ∀ t, f t → g t) : ∀ {ps : List (Int × Int)}, gm_look pc d x f ps → gm_look pc d x g ps
  | [], h => gm_jmp_mono hfg h
  | (k, o) :: r, h => ⟨fun hx => gm_jmp_mono hfg (h.1 hx), fun hx => gm_look_mono hfg (h.2 hx)⟩
theorem gm_tab_mono {pc : Nat} {d : Int} {x : Int32} {f g : Nat → Prop} (hfg : ∀ t, f t → g t) : ∀ {os : List Int} {v : Int}, gm_tab pc d x f v os → gm_tab pc d x g v os
  | [], _, h => gm_jmp_mono hfg h
  | o :: r, _, h => ⟨fun hx => gm_jmp_mono hfg (h.1 hx), fun hx => gm_tab_mono hfg (h.2 hx)⟩
theorem gm_i1_mono {st : List Value} {f g : Int32 → List Value → Prop} (hfg : ∀ x r, f x r → g x r) (h : gm_i1 st f) : gm_i1 st g := by
  obtain ⟨x, r, rfl, h⟩ := gm_i1_of h
  exact hfg _ _ h
theorem gm_i2_mono {st : List Value} {f g : Int32 → Int32 → List Value → Prop} (hfg : ∀ x y r, f x y r → g x y r) (h : gm_i2 st f) : gm_i2 st g := by
  obtain ⟨x, y, r, rfl, h⟩ := gm_i2_of h
  exact hfg _ _ _ h
theorem gm_l1_mono {st : List Value} {f g : Int64 → List Value → Prop} (hfg : ∀ x r, f x r → g x r) (h : gm_l1 st f) : gm_l1 st g := by
  obtain ⟨x, r, rfl, h⟩ := gm_l1_of h
  exact hfg _ _ h
theorem gm_l2_mono {st : List Value} {f g : Int64 → Int64 → List Value → Prop} (hfg : ∀ x y r, f x y r → g x y r) (h : gm_l2 st f) : gm_l2 st g := by
  unfold gm_l2 at h ⊢
  split at h
  · exact hfg _ _ _ h
  · exact h.elim
theorem gm_d1_mono {st : List Value} {f g : UInt64 → List Value → Prop} (hfg : ∀ x r, f x r → g x r) (h : gm_d1 st f) : gm_d1 st g := by
  obtain ⟨x, r, rfl, h⟩ := gm_d1_of h
  exact hfg _ _ h
theorem gm_sa_mono {st : List Value} {f g : Nat → List Value → Prop} (hfg : ∀ x r, f x r → g x r) (h : gm_sa st f) : gm_sa st g := by
  obtain ⟨x, r, rfl, h⟩ := gm_sa_of h
  exact hfg _ _ h
theorem gm_sf_mono {st : List Value} {f g : UInt32 → List Value → Prop} (hfg : ∀ x r, f x r → g x r) (h : gm_sf st f) : gm_sf st g := by
  unfold gm_sf at h ⊢
  split at h
  · exact hfg _ _ h
  · exact h.elim
theorem gm_li_mono {v : Option (Option Value)} {f g : Int32 → Prop} (hfg : ∀ x, f x → g x) (h : gm_li v f) : gm_li v g := by
  unfold gm_li at h ⊢
  split at h
  · exact hfg _ h
  · exact h.elim
theorem gm_ll_mono {v : Option (Option Value)} {f g : Int64 → Prop} (hfg : ∀ x, f x → g x) (h : gm_ll v f) : gm_ll v g := by
  unfold gm_ll at h ⊢
  split at h
  · exact hfg _ h
  · exact h.elim
theorem gm_lf_mono {v : Option (Option Value)} {f g : UInt32 → Prop} (hfg : ∀ x, f x → g x) (h : gm_lf v f) : gm_lf v g := by
  unfold gm_lf at h ⊢
  split at h
  · exact hfg _ h
  · exact h.elim
theorem gm_la_mono {v : Option (Option Value)} {f g : Nat → Prop} (hfg : ∀ x, f x → g x) (h : gm_la v f) : gm_la v g := by
  unfold gm_la at h ⊢
  split at h
  · exact hfg _ h
  · exact h.elim
theorem gm_op_mono {α : Type} {o : Option α} {f g : α → Prop} (hfg : ∀ x, f x → g x) (h : gm_op o f) : gm_op o g := by
  obtain ⟨x, rfl, h⟩ := gm_op_of h
  exact hfg _ h
theorem gm_ob_mono {h : pH} {a : Nat} {f g : Nat → List Value → Prop} (hfg : ∀ x y, f x y → g x y) (h0 : gm_ob h a f) : gm_ob h a g := by
  unfold gm_ob at h0 ⊢
  split at h0
  · exact hfg _ _ h0
  · exact h0.elim
theorem gm_ai_mono {h : pH} {a t : Nat} {f g : Nat → (Nat → Int32) → Prop} (hfg : ∀ x y, f x y → g x y) (h0 : gm_ai h a t f) : gm_ai h a t g := by
  unfold gm_ai at h0 ⊢
  split at h0
  · rename_i k n r hq
    cases hb : Nat.beq k t with
    | true => rw [hb] at h0; exact hfg _ _ h0
    | false => rw [hb] at h0; exact h0.elim
  · exact h0.elim
theorem gm_ab_mono {h : pH} {a : Nat} {f g : Nat → Nat → (Nat → Int32) → Prop} (hfg : ∀ k x y, f k x y → g k x y) (h0 : gm_ab h a f) : gm_ab h a g := by
  unfold gm_ab at h0 ⊢
  split at h0
  · rename_i k n r hq
    cases hb : Nat.beq k 2 with
    | true => rw [hb] at h0; exact hfg _ _ _ h0
    | false =>
      rw [hb] at h0
      cases hb3 : Nat.beq k 3 with
      | true => rw [hb3] at h0; exact hfg _ _ _ h0
      | false => rw [hb3] at h0; exact h0.elim
  · exact h0.elim
theorem gm_bst_mono {k : Nat} {y : Int32} {p q : Prop} (h1 : p → q) (h : gm_bst k y p) : gm_bst k y q := by
  unfold gm_bst at h ⊢
  cases hb : Nat.beq k 2 with
  | true => rw [hb] at h; exact ⟨h.1, h1 h.2⟩
  | false => rw [hb] at h; exact ⟨h.1, h1 h.2⟩
theorem gm_call_mono {mid : Nat} {av : List Value} {h : pH} {c s : Nat} {f f2 : Option Value → pH → Nat → Nat → Prop} {g g2 : String → pH → Nat → Nat → Prop} (h1 : ∀ v h c s, f v h c s → f2 v h c s) (h2 : ∀ E h c s, g E h c s → g2 E h c s) (h0 : gm_call Sp mid av h c s f g) : gm_call Sp mid av h c s f2 g2 := by
  rcases h0 with ⟨v, a, b, d, x, y⟩ | ⟨v, a, b, d, x, y⟩
  · exact Or.inl ⟨v, a, b, d, x, h1 _ _ _ _ y⟩
  · exact Or.inr ⟨v, a, b, d, x, h2 _ _ _ _ y⟩
theorem gm_if_mono2 {b : Bool} {p q : Prop} (h1 : p → q) (h : gm_if b p) : gm_if b q := by
  cases b
  · exact h
  · exact h1 h
theorem gm_thr_mono (hG : ∀ pc ls st h c s, G2 pc ls st h c s → G pc ls st h c s) {pc : Nat} {ls : pL} {E : String} {h : pH} {c s : Nat} (h0 : gm_thr M G2 X pc ls E h c s) : gm_thr M G X pc ls E h c s := by
  unfold gm_thr at h0 ⊢
  split at h0
  · split at h0
    · exact gm_if_mono2 (hG _ _ _ _ _ _) h0
    · exact gm_if_mono2 (hG _ _ _ _ _ _) h0
    · exact h0.elim
  · exact h0
theorem gm_bif {b : Bool} {p q p2 q2 : Prop} (h1 : p → p2) (h2 : q → q2) (h : bif b then p else q) : bif b then p2 else q2 := by
  cases b
  · exact h2 h
  · exact h1 h
theorem gm_if_mono {b : Bool} {p q : Prop} (h1 : p → q) (h : gm_if b p) : gm_if b q := by
  cases b
  · exact h
  · exact h1 h
theorem gm_okx_mono {ty : FieldType} {v : Value} {p q : Prop} (h1 : p → q) (h : gm_okx ty v p) : gm_okx ty v q := by
  unfold gm_okx at h ⊢
  split at h <;> first | exact h1 h | exact ⟨h.1, h1 h.2⟩ | exact h
set_option maxRecDepth 20000 in
theorem gm_w_mono (hG : ∀ pc ls st h c s, G2 pc ls st h c s → G pc ls st h c s) {i : Instr} {pc n : Nat} {ls : pL} {st : List Value} {h : pH} {c s : Nat} (h0 : gm_w M tyf sq Sp G2 X i pc n ls st h c s) : gm_w M tyf sq Sp G X i pc n ls st h c s := by
  cases i with

  | iconst k => exact hG _ _ _ _ _ _ h0
  | bipush k => exact hG _ _ _ _ _ _ h0
  | sipush k => exact hG _ _ _ _ _ _ h0
  | lconst k => exact hG _ _ _ _ _ _ h0
  | fconst k =>
    match k, h0 with
    | 0, h0 => exact hG _ _ _ _ _ _ h0
    | 1, h0 => exact False.elim h0
    | 2, h0 => exact False.elim h0
  | ldc k => exact gm_op_mono (fun v hv => by cases v <;> first | exact hG _ _ _ _ _ _ hv | exact False.elim hv) h0
  | ldc_w k => exact gm_op_mono (fun v hv => by cases v <;> first | exact hG _ _ _ _ _ _ hv | exact False.elim hv) h0
  | ldc2_w k => exact gm_op_mono (fun v hv => by cases v <;> first | exact hG _ _ _ _ _ _ hv | exact False.elim hv) h0
  | iload_n k => exact gm_li_mono (fun _ => hG _ _ _ _ _ _) h0
  | iload k => exact gm_li_mono (fun _ => hG _ _ _ _ _ _) h0
  | iinc k d => exact gm_li_mono (fun _ => hG _ _ _ _ _ _) h0
  | lload_n k => exact gm_ll_mono (fun _ => hG _ _ _ _ _ _) h0
  | lload k => exact gm_ll_mono (fun _ => hG _ _ _ _ _ _) h0
  | fload k => exact gm_lf_mono (fun _ => hG _ _ _ _ _ _) h0
  | aload_n k => exact gm_la_mono (fun _ => hG _ _ _ _ _ _) h0
  | aload k => exact gm_la_mono (fun _ => hG _ _ _ _ _ _) h0
  | istore_n k => exact gm_i1_mono (fun _ _ hq => gm_if_mono (hG _ _ _ _ _ _) hq) h0
  | istore k => exact gm_i1_mono (fun _ _ hq => gm_if_mono (hG _ _ _ _ _ _) hq) h0
  | lstore_n k => exact gm_l1_mono (fun _ _ hq => gm_if_mono (hG _ _ _ _ _ _) hq) h0
  | lstore k => exact gm_l1_mono (fun _ _ hq => gm_if_mono (hG _ _ _ _ _ _) hq) h0
  | fstore k => exact gm_sf_mono (fun _ _ hq => gm_if_mono (hG _ _ _ _ _ _) hq) h0
  | astore_n k => exact gm_sa_mono (fun _ _ hq => gm_if_mono (hG _ _ _ _ _ _) hq) h0
  | astore k => exact gm_sa_mono (fun _ _ hq => gm_if_mono (hG _ _ _ _ _ _) hq) h0
  | iadd => exact gm_i2_mono (fun _ _ _ => hG _ _ _ _ _ _) h0
  | isub => exact gm_i2_mono (fun _ _ _ => hG _ _ _ _ _ _) h0
  | imul => exact gm_i2_mono (fun _ _ _ => hG _ _ _ _ _ _) h0
  | iand => exact gm_i2_mono (fun _ _ _ => hG _ _ _ _ _ _) h0
  | ior => exact gm_i2_mono (fun _ _ _ => hG _ _ _ _ _ _) h0
  | ixor => exact gm_i2_mono (fun _ _ _ => hG _ _ _ _ _ _) h0
  | ishl => exact gm_i2_mono (fun _ _ _ => hG _ _ _ _ _ _) h0
  | ishr => exact gm_i2_mono (fun _ _ _ => hG _ _ _ _ _ _) h0
  | iushr => exact gm_i2_mono (fun _ _ _ => hG _ _ _ _ _ _) h0
  | idiv => exact gm_i2_mono (fun _ _ _ hq => ⟨hq.1, hG _ _ _ _ _ _ hq.2⟩) h0
  | irem => exact gm_i2_mono (fun _ _ _ hq => ⟨hq.1, hG _ _ _ _ _ _ hq.2⟩) h0
  | ineg => exact gm_i1_mono (fun _ _ => hG _ _ _ _ _ _) h0
  | i2l => exact gm_i1_mono (fun _ _ => hG _ _ _ _ _ _) h0
  | i2c => exact gm_i1_mono (fun _ _ => hG _ _ _ _ _ _) h0
  | i2f => exact gm_i1_mono (fun _ _ => hG _ _ _ _ _ _) h0
  | ladd => exact gm_l2_mono (fun _ _ _ => hG _ _ _ _ _ _) h0
  | lsub => exact gm_l2_mono (fun _ _ _ => hG _ _ _ _ _ _) h0
  | lmul => exact gm_l2_mono (fun _ _ _ => hG _ _ _ _ _ _) h0
  | land => exact gm_l2_mono (fun _ _ _ => hG _ _ _ _ _ _) h0
  | lor => exact gm_l2_mono (fun _ _ _ => hG _ _ _ _ _ _) h0
  | lxor => exact gm_l2_mono (fun _ _ _ => hG _ _ _ _ _ _) h0
  | lcmp => exact gm_l2_mono (fun _ _ _ => hG _ _ _ _ _ _) h0
  | lneg => exact gm_l1_mono (fun _ _ => hG _ _ _ _ _ _) h0
  | l2i => exact gm_l1_mono (fun _ _ => hG _ _ _ _ _ _) h0
  | lshl => exact gm_i1_mono (fun _ _ hq => gm_l1_mono (fun _ _ => hG _ _ _ _ _ _) hq) h0
  | lshr => exact gm_i1_mono (fun _ _ hq => gm_l1_mono (fun _ _ => hG _ _ _ _ _ _) hq) h0
  | f2d => exact gm_sf_mono (fun _ _ hq => ⟨hq.1, hG _ _ _ _ _ _ hq.2⟩) h0
  | fdiv =>
    match st, h0 with
    | .float y :: .float x :: r, h0 => exact ⟨h0.1, hG _ _ _ _ _ _ h0.2⟩
  | fcmp op =>
    match st, h0 with
    | .float y :: .float x :: r, h0 => exact hG _ _ _ _ _ _ h0
  | dcmp op =>
    match st, h0 with
    | .double y :: .double x :: r, h0 => exact hG _ _ _ _ _ _ h0
  | dup =>
    match st, h0 with
    | v :: r, h0 => exact gm_if_mono (hG _ _ _ _ _ _) h0
  | dup_x1 =>
    match st, h0 with
    | v :: w :: r, h0 => exact gm_if_mono (gm_if_mono (hG _ _ _ _ _ _)) h0
  | dup2 =>
    match st, h0 with
    | v :: w :: r, h0 => exact gm_if_mono (gm_if_mono (hG _ _ _ _ _ _)) h0
  | pop =>
    match st, h0 with
    | v :: r, h0 => exact gm_if_mono (hG _ _ _ _ _ _) h0
  | goto o => exact gm_jmp_mono (fun _ => hG _ _ _ _ _ _) h0
  | ifCond cd o => exact gm_i1_mono (fun _ _ hq => gm_jmp_mono (fun _ hz => ⟨fun hc => hG _ _ _ _ _ _ (hz.1 hc), fun hc => hG _ _ _ _ _ _ (hz.2 hc)⟩) hq) h0
  | if_icmp cd o => exact gm_i2_mono (fun _ _ _ hq => gm_jmp_mono (fun _ hz => ⟨fun hc => hG _ _ _ _ _ _ (hz.1 hc), fun hc => hG _ _ _ _ _ _ (hz.2 hc)⟩) hq) h0
  | lookupswitch d ps => exact gm_i1_mono (fun _ _ hq => gm_look_mono (fun _ => hG _ _ _ _ _ _) hq) h0
  | tableswitch d lo hi os => exact gm_i1_mono (fun _ _ hq => gm_tab_mono (fun _ => hG _ _ _ _ _ _) hq) h0
  | getfield k => exact gm_sa_mono (fun _ _ hq => gm_op_mono (fun _ hq => gm_ob_mono (fun _ _ hq => gm_if_mono (gm_op_mono (fun _ => hG _ _ _ _ _ _)) hq) hq) hq) h0
  | putfield k =>
    match st, h0 with
    | v :: .ref a :: r, h0 => exact gm_op_mono (fun _ hq => gm_ob_mono (fun _ _ hq => gm_op_mono (fun _ hq => gm_if_mono (gm_okx_mono (hG _ _ _ _ _ _)) hq) hq) hq) h0
  | iaload => exact gm_i1_mono (fun _ _ hq => gm_sa_mono (fun _ _ hq => gm_bif (fun hq => gm_op_mono (fun _ hq => ⟨hq.1, hG _ _ _ _ _ _ hq.2⟩) hq) (fun hq => gm_ai_mono (fun _ _ hq => ⟨hq.1, hG _ _ _ _ _ _ hq.2⟩) hq) hq) hq) h0
  | caload => exact gm_i1_mono (fun _ _ hq => gm_sa_mono (fun _ _ hq => gm_ai_mono (fun _ _ hq => ⟨hq.1, hG _ _ _ _ _ _ hq.2⟩) hq) hq) h0
  | baload => exact gm_i1_mono (fun _ _ hq => gm_sa_mono (fun _ _ hq => gm_ab_mono (fun _ _ _ hq => ⟨hq.1, hG _ _ _ _ _ _ hq.2⟩) hq) hq) h0
  | iastore => exact gm_i2_mono (fun _ _ _ hq => gm_sa_mono (fun _ _ hq => gm_ai_mono (fun _ _ hq => ⟨hq.1, hG _ _ _ _ _ _ hq.2⟩) hq) hq) h0
  | castore => exact gm_i2_mono (fun _ _ _ hq => gm_sa_mono (fun _ _ hq => gm_ai_mono (fun _ _ hq => ⟨hq.1, hq.2.1, hG _ _ _ _ _ _ hq.2.2⟩) hq) hq) h0
  | bastore => exact gm_i2_mono (fun _ _ _ hq => gm_sa_mono (fun _ _ hq => gm_ab_mono (fun _ _ _ hq => ⟨hq.1, gm_bst_mono (hG _ _ _ _ _ _) hq.2⟩) hq) hq) h0
  | arraylength => exact gm_sa_mono (fun _ _ hq => gm_bif (fun hq => gm_op_mono (fun _ => hG _ _ _ _ _ _) hq) id hq) h0
  | newarray t => exact gm_i1_mono (fun _ _ hq => ⟨hq.1, gm_if_mono (gm_if_mono (gm_op_mono (fun _ => hG _ _ _ _ _ _))) hq.2⟩) h0
  | new k =>
    revert h0
    show (match gm_asc M.2.2.2.2.2.2.2.2.2.2.2 k with
      | some E => gm_if (Nat.ble (gm_sum st) 8) (X (.inr E) h (c + 1) (s + 6))
      | none => gm_op (gm_asc M.2.2.2.2.2.2.2.2.2.2.1 k) fun q => gm_if (gm_frs h.length st && (gm_frl h.length ls && gm_frh h.length h) && (gm_frs h.length q.2 && Nat.blt h.length 88888)) (G2 n ls (.ref h.length :: st) (h ++ [.inr q]) (c + 1) (s + q.2.length))) → (match gm_asc M.2.2.2.2.2.2.2.2.2.2.2 k with
      | some E => gm_if (Nat.ble (gm_sum st) 8) (X (.inr E) h (c + 1) (s + 6))
      | none => gm_op (gm_asc M.2.2.2.2.2.2.2.2.2.2.1 k) fun q => gm_if (gm_frs h.length st && (gm_frl h.length ls && gm_frh h.length h) && (gm_frs h.length q.2 && Nat.blt h.length 88888)) (G n ls (.ref h.length :: st) (h ++ [.inr q]) (c + 1) (s + q.2.length)))
    cases gm_asc M.2.2.2.2.2.2.2.2.2.2.2 k with
    | some E => exact id
    | none => exact gm_op_mono (fun _ => gm_if_mono (hG _ _ _ _ _ _))
  | invokestatic k =>
    exact gm_op_mono (fun _ hq => gm_bif id (fun hq => gm_bif (fun hq => gm_op_mono (fun _ hq => gm_if_mono (fun hq => by obtain ⟨v, a, b, d, x, y⟩ := hq; exact ⟨v, a, b, d, x, hG _ _ _ _ _ _ y⟩) hq) hq) (fun hq => gm_op_mono (fun _ hq => gm_if_mono (gm_call_mono (fun _ _ _ _ => hG _ _ _ _ _ _) (fun _ _ _ _ => gm_thr_mono hG)) hq) hq) hq) hq) h0
  | invokevirtual k =>
    exact gm_op_mono (fun _ hq => gm_bif id (fun hq => gm_op_mono (fun _ hq => gm_sa_mono (fun _ _ hq => gm_ob_mono (fun _ _ hq => gm_bif (fun hq => gm_if_mono (gm_call_mono (fun _ _ _ _ => hG _ _ _ _ _ _) (fun _ _ _ _ => gm_thr_mono hG)) hq) id hq) hq) hq) hq) hq) h0
  | invokespecial k =>
    refine gm_op_mono (fun q hq => gm_bif id (fun hq => gm_op_mono (fun _ hq => gm_sa_mono (fun _ _ hq => gm_if_mono ?_ hq) hq) hq) hq) h0
    cases q.1 with
    | zero => exact hG _ _ _ _ _ _
    | succ q1 => exact fun hz => by obtain ⟨a, b, d, x, y⟩ := hz; exact ⟨a, b, d, x, gm_if_mono (hG _ _ _ _ _ _) y⟩
  | ireturn => exact h0
  | lreturn => exact h0
  | freturn => exact h0
  | areturn => exact h0
  | return_ => exact h0
  | _ => exact False.elim h0
/-- numbers and rows of locals, made plain on the way -/
def gm_ev : Nat → (Nat → Prop) → Prop
  | 0, f => f 0
  | n + 1, f => f (n + 1)
theorem gm_ev_iff {n : Nat} {f : Nat → Prop} : gm_ev n f ↔ f n := by cases n <;> exact Iff.rfl
def gm_evl : pL → (pL → Prop) → Prop
  | [], f => f []
  | a :: l, f => gm_evl l (fun r => f (a :: r))
theorem gm_evl_iff : ∀ {l : pL} {f : pL → Prop}, gm_evl l f ↔ f l
  | [], _ => Iff.rfl
  | _ :: _, f => gm_evl_iff (f := fun r => f (_ :: r))
/-- k instructions in one go, but not past a cut -/
def gm_run (M : pM) (tyf : Nat → Nat → FieldType) (sq : pQ) (Sp : pS) (G : pG) (X : pX) (cut : List Nat) : Nat → pG
  | 0 => G
  | k + 1 => fun pc ls st h c s => gm_ev pc fun pc => gm_evl ls fun ls => bif cut.any (Nat.beq pc) then G pc ls st h c s else gm_op (gm_asc M.2.2.2.2.2.1 pc) fun q => gm_w M tyf sq Sp (gm_run M tyf sq Sp G X cut k) X q.1 pc (pc + q.2) ls st h c s
theorem gm_runs (hC : gm_cl M tyf sq Sp G X) (cut : List Nat) : ∀ (k pc : Nat) (ls : pL) (st : List Value) (h : pH) (c s : Nat), gm_run M tyf sq Sp G X cut k pc ls st h c s → G pc ls st h c s
  | 0, _, _, _, _, _, _, h0 => h0
  | k + 1, pc, ls, st, h, c, s, h0 => by
    unfold gm_run at h0
    rw [gm_ev_iff, gm_evl_iff] at h0
    cases hb : cut.any (Nat.beq pc) with
    | true => rw [hb] at h0; exact h0
    | false =>
      rw [hb] at h0
      obtain ⟨q, hq, h1⟩ := gm_op_of h0
      exact hC pc q.1 q.2 hq ls st h c s (gm_w_mono (fun pc ls st h c s => gm_runs hC cut k pc ls st h c s) h1)
/-- the first instruction at a cut itself, then on -/
theorem gm_run1 (hC : gm_cl M tyf sq Sp G X) (cut : List Nat) (k pc : Nat) {ls : pL} {st : List Value} {h : pH} {c s : Nat} (h0 : gm_op (gm_asc M.2.2.2.2.2.1 pc) fun q => gm_w M tyf sq Sp (gm_run M tyf sq Sp G X cut k) X q.1 pc (pc + q.2) ls st h c s) : G pc ls st h c s := by
  obtain ⟨q, hq, h1⟩ := gm_op_of h0
  exact hC pc q.1 q.2 hq ls st h c s (gm_w_mono (fun pc ls st h c s => gm_runs hC cut k pc ls st h c s) h1)
end GR
