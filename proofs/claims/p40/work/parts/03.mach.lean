/-! THE ABSTRACT MACHINE: cells by their places in a list, values as the JVM's with places for addresses. One predicate a point of the code (pG); what an instruction owes (gm_w). -/
abbrev pE : Type := (Nat × vp_A) ⊕ (Nat × List Value)
abbrev pH : Type := List pE
abbrev pL : Type := List (Option Value)
abbrev pO : Type := Option Value ⊕ String
abbrev pG : Type := Nat → pL → List Value → pH → Nat → Nat → Prop
abbrev pX : Type := pO → pH → Nat → Nat → Prop
abbrev pS : Type := Nat → List Value → pH → pO → pH → Nat → Nat → Prop
/-- a class: fields, methods, constants, classes made, exceptions made, by the places of its constant pool -/
abbrev pK : Type := List (Nat × Nat × Nat) × List (Nat × Nat × Nat) × List (Nat × Value) × List (Nat × Nat × List Value) × List (Nat × String)
/-- a method: its class's name, its name, its bytes, locals, return type, instructions, handlers, class -/
abbrev pM : Type := String × MethodName × ByteArray × Nat × Option FieldType × List (Nat × Instr × Nat) × List (Nat × Nat × Nat × Nat) × pK
def gm_nth {α : Type} : List α → Nat → Option α
  | [], _ => none
  | a :: _, 0 => some a
  | _ :: l, k + 1 => gm_nth l k
def gm_set {α : Type} : List α → Nat → α → List α
  | [], _, _ => []
  | _ :: l, 0, x => x :: l
  | a :: l, k + 1, x => a :: gm_set l k x
def gm_asc {α : Type} : List (Nat × α) → Nat → Option α
  | [], _ => none
  | (k, a) :: l, n => bif Nat.beq k n then some a else gm_asc l n
def gm_lit : Int → Int32
  | .ofNat n => OfNat.ofNat n
  | .negSucc n => -(OfNat.ofNat (n + 1))
def gm_jmp (pc : Nat) (off : Int) (f : Nat → Prop) : Prop := match (pc : Int) + off with
  | .ofNat t => f t
  | .negSucc _ => False
def gm_ic (cd : ClassFile.Cond) (x y : Int32) : Prop := match cd with
  | .eq => x = y
  | .ne => ¬ x = y
  | .lt => x < y
  | .ge => y ≤ x
  | .gt => y < x
  | .le => x ≤ y
def gm_look (pc : Nat) (d : Int) (x : Int32) (f : Nat → Prop) : List (Int × Int) → Prop
  | [] => gm_jmp pc d f
  | (k, o) :: r => (x = gm_lit k → gm_jmp pc o f) ∧ (¬ x = gm_lit k → gm_look pc d x f r)
def gm_tab (pc : Nat) (d : Int) (x : Int32) (f : Nat → Prop) : Int → List Int → Prop
  | _, [] => gm_jmp pc d f
  | v, o :: r => (x = gm_lit v → gm_jmp pc o f) ∧ (¬ x = gm_lit v → gm_tab pc d x f (v + 1) r)
/-- what may be put into a field, or handed back, of a type -/
def gm_ok : FieldType → Value → Prop
  | .int, .int _ => True
  | .boolean, .int x => x = 0 ∨ x = 1
  | .char, .int x => 0 ≤ x ∧ x ≤ 65535
  | .byte, .int x => -128 ≤ x ∧ x ≤ 127
  | .long, .long _ => True
  | .float, .float _ => True
  | .object _, .ref _ => True
  | .array _, .ref _ => True
  | _, _ => False
def gm_if (b : Bool) (P : Prop) : Prop := match b with
  | true => P
  | false => False
/-- a value of a type, and more -/
def gm_okx (ty : FieldType) (v : Value) (P : Prop) : Prop := match ty, v with
  | .int, .int _ => P
  | .boolean, .int x => (x = 0 ∨ x = 1) ∧ P
  | .char, .int x => (0 ≤ x ∧ x ≤ 65535) ∧ P
  | .byte, .int x => (-128 ≤ x ∧ x ≤ 127) ∧ P
  | .long, .long _ => P
  | .float, .float _ => P
  | .object _, .ref _ => P
  | .array _, .ref _ => P
  | _, _ => False
def gm_okrx (ty : Option FieldType) (v : Option Value) (P : Prop) : Prop := match ty, v with
  | none, none => P
  | some ty, some v => gm_okx ty v P
  | _, _ => False
def gm_okr : Option FieldType → Option Value → Prop
  | none, none => True
  | some ty, some v => gm_ok ty v
  | _, _ => False
def gm_cat2 : Option (Option Value) → Bool
  | some (some (.long _)) => true
  | some (some (.double _)) => true
  | _ => false
/-- a value of one slot into a local: a long ahead of it goes -/
def gm_st1 (ls : pL) : Nat → Value → pL
  | 0, v => gm_set ls 0 (some v)
  | i + 1, v => gm_set (bif gm_cat2 (gm_nth ls i) then gm_set ls i none else ls) (i + 1) (some v)
def gm_st2 (ls : pL) : Nat → Value → pL
  | 0, v => gm_set (gm_set ls 1 none) 0 (some v)
  | i + 1, v => gm_set (gm_set (bif gm_cat2 (gm_nth ls i) then gm_set ls i none else ls) (i + 2) none) (i + 1) (some v)
def gm_sum : List Value → Nat
  | [] => 0
  | .long _ :: r => 2 + gm_sum r
  | .double _ :: r => 2 + gm_sum r
  | _ :: r => 1 + gm_sum r
/-- n values off the stack, the first pushed first -/
def gm_pop : Nat → List Value → List Value → Option (List Value × List Value)
  | 0, acc, st => some (acc, st)
  | n + 1, acc, v :: st => gm_pop n (v :: acc) st
  | _ + 1, _, [] => none
def gm_i1 (st : List Value) (f : Int32 → List Value → Prop) : Prop := match st with
  | .int x :: r => f x r
  | _ => False
def gm_i2 (st : List Value) (f : Int32 → Int32 → List Value → Prop) : Prop := match st with
  | .int y :: .int x :: r => f x y r
  | _ => False
def gm_l1 (st : List Value) (f : Int64 → List Value → Prop) : Prop := match st with
  | .long x :: r => f x r
  | _ => False
def gm_l2 (st : List Value) (f : Int64 → Int64 → List Value → Prop) : Prop := match st with
  | .long y :: .long x :: r => f x y r
  | _ => False
def gm_li (v : Option (Option Value)) (f : Int32 → Prop) : Prop := match v with
  | some (some (.int x)) => f x
  | _ => False
def gm_ll (v : Option (Option Value)) (f : Int64 → Prop) : Prop := match v with
  | some (some (.long x)) => f x
  | _ => False
def gm_lf (v : Option (Option Value)) (f : UInt32 → Prop) : Prop := match v with
  | some (some (.float x)) => f x
  | _ => False
def gm_la (v : Option (Option Value)) (f : Nat → Prop) : Prop := match v with
  | some (some (.ref x)) => f x
  | _ => False
def gm_si (st : List Value) (f : Int32 → List Value → Prop) : Prop := gm_i1 st f
def gm_sf (st : List Value) (f : UInt32 → List Value → Prop) : Prop := match st with
  | .float x :: r => f x r
  | _ => False
def gm_sa (st : List Value) (f : Nat → List Value → Prop) : Prop := match st with
  | .ref x :: r => f x r
  | _ => False
def gm_d1 (st : List Value) (f : UInt64 → List Value → Prop) : Prop := match st with
  | .double x :: r => f x r
  | _ => False
/-- an object's cell -/
def gm_ob (h : pH) (a : Nat) (f : Nat → List Value → Prop) : Prop := match gm_nth h a with
  | some (.inr (ci, fs)) => f ci fs
  | _ => False
/-- an array of 32-bit numbers, of a kind (0 int, 1 char, 2 boolean) -/
def gm_ai (h : pH) (a : Nat) (t : Nat) (f : Nat → (Nat → Int32) → Prop) : Prop := match gm_nth h a with
  | some (.inl (k, n, .inl r)) => bif Nat.beq k t then f n r else False
  | _ => False
/-- an array of truth values (2) or bytes (3) -/
def gm_ab (h : pH) (a : Nat) (f : Nat → Nat → (Nat → Int32) → Prop) : Prop := match gm_nth h a with
  | some (.inl (k, n, .inl r)) => bif Nat.beq k 2 then f 2 n r else bif Nat.beq k 3 then f 3 n r else False
  | _ => False
def gm_bst (k : Nat) (y : Int32) (P : Prop) : Prop := bif Nat.beq k 2 then (y = 0 ∨ y = 1) ∧ P else (-128 ≤ y ∧ y ≤ 127) ∧ P
def gm_op {α : Type} (o : Option α) (f : α → Prop) : Prop := match o with
  | some a => f a
  | none => False
def gm_c1 (v : Value) : Bool := match v with
  | .int _ => true
  | .ref _ => true
  | .float _ => true
  | _ => false
/-- the handler of this method for an exception of class E at pc, by its table; 'tn' tells a table's class place by name -/
def gm_hd (tn : List (Nat × String)) (E : String) (pc : Nat) : List (Nat × Nat × Nat × Nat) → Option Nat
  | [] => none
  | (a, b, t, k) :: r => bif Nat.ble a pc && Nat.blt pc b && (gm_asc tn k == some E) then some t else gm_hd tn E pc r
/-- what a call owes: some outcome of the callee, and the way on from there -/
def gm_call (Sp : pS) (mid : Nat) (av : List Value) (h : pH) (c s : Nat) (f : Option Value → pH → Nat → Nat → Prop) (g : String → pH → Nat → Nat → Prop) : Prop :=
  (∃ (v : Option Value) (h1 : pH) (c1 s1 : Nat), Sp mid av h (.inl v) h1 c1 s1 ∧ f v h1 (c + c1) (s + s1)) ∨ (∃ (E : String) (h1 : pH) (c1 s1 : Nat), Sp mid av h (.inr E) h1 c1 s1 ∧ g E h1 (c + c1) (s + s1))
/-- the script: an array outside the world, at the place 88888 -/
abbrev pQ : Type := Option (Nat × (Nat → Int32))
def gm_ifs {α : Type} (b : Bool) (x y : α) : α := bif b then x else y
def gm_zero : ArrayType → Nat → Option pE
  | .int, n => some (.inl (0, n, .inl (fun _ => 0)))
  | .char, n => some (.inl (1, n, .inl (fun _ => 0)))
  | .boolean, n => some (.inl (2, n, .inl (fun _ => 0)))
  | .byte, n => some (.inl (3, n, .inl (fun _ => 0)))
  | _, _ => none
def gm_vl : Option Value → List Value → List Value
  | none, r => r
  | some v, r => v :: r
/-- an exception of class E comes out of a call at pc: a handler's first instruction puts it into a local that nobody reads; or it goes on to the caller -/
def gm_thr (M : pM) (G : pG) (X : pX) (pc : Nat) (ls : pL) (E : String) (h1 : pH) (c1 s1 : Nat) : Prop := match gm_hd M.2.2.2.2.2.2.2.2.2.2.2 E pc M.2.2.2.2.2.2.1 with
  | some t => (match gm_asc M.2.2.2.2.2.1 t with
    | some (.astore_n k, _) => gm_if (Nat.blt k.val ls.length) (G (t + 1) (gm_set (gm_st1 ls k.val (.int 0)) k.val none) [] h1 c1 s1)
    | some (.astore k, _) => gm_if (Nat.blt k ls.length) (G (t + 2) (gm_set (gm_st1 ls k (.int 0)) k none) [] h1 c1 s1)
    | _ => False)
  | none => X (.inr E) h1 c1 s1
/-- references that stay what they are while cells are made -/
def gm_fr (n : Nat) : Value → Bool
  | .ref a => Nat.blt a n || Nat.beq a 88888
  | _ => true
def gm_frs (n : Nat) : List Value → Bool
  | [] => true
  | v :: r => gm_fr n v && gm_frs n r
def gm_frl (n : Nat) : pL → Bool
  | [] => true
  | some v :: r => gm_fr n v && gm_frl n r
  | none :: r => gm_frl n r
def gm_frh (n : Nat) : pH → Bool
  | [] => true
  | .inl _ :: r => gm_frh n r
  | .inr q :: r => gm_frs n q.2 && gm_frh n r
/-- what an instruction owes at pc, its successor at n -/
def gm_w (M : pM) (tyf : Nat → Nat → FieldType) (sq : pQ) (Sp : pS) (G : pG) (X : pX) (i : Instr) (pc n : Nat) (ls : pL) (st : List Value) (h : pH) (c s : Nat) : Prop := match i with
  | .iconst k => G n ls (.int (gm_lit k) :: st) h c s
  | .bipush k => G n ls (.int (gm_lit k) :: st) h c s
  | .sipush k => G n ls (.int (gm_lit k) :: st) h c s
  | .lconst k => G n ls (.long (OfNat.ofNat k.val) :: st) h c s
  | .fconst k => match k with
    | 0 => G n ls (.float FP.fconst0 :: st) h c s
    | _ => False
  | .ldc k => gm_op (gm_asc M.2.2.2.2.2.2.2.2.2.1 k) fun v => match v with
    | .int x => G n ls (.int x :: st) h c s
    | .float x => G n ls (.float x :: st) h c s
    | _ => False
  | .ldc_w k => gm_op (gm_asc M.2.2.2.2.2.2.2.2.2.1 k) fun v => match v with
    | .int x => G n ls (.int x :: st) h c s
    | .float x => G n ls (.float x :: st) h c s
    | _ => False
  | .ldc2_w k => gm_op (gm_asc M.2.2.2.2.2.2.2.2.2.1 k) fun v => match v with
    | .long x => G n ls (.long x :: st) h c s
    | _ => False
  | .iload_n k => gm_li (gm_nth ls k.val) fun x => G n ls (.int x :: st) h c s
  | .iload k => gm_li (gm_nth ls k) fun x => G n ls (.int x :: st) h c s
  | .lload_n k => gm_ll (gm_nth ls k.val) fun x => G n ls (.long x :: st) h c s
  | .lload k => gm_ll (gm_nth ls k) fun x => G n ls (.long x :: st) h c s
  | .fload k => gm_lf (gm_nth ls k) fun x => G n ls (.float x :: st) h c s
  | .aload_n k => gm_la (gm_nth ls k.val) fun x => G n ls (.ref x :: st) h c s
  | .aload k => gm_la (gm_nth ls k) fun x => G n ls (.ref x :: st) h c s
  | .istore_n k => gm_i1 st fun x r => gm_if (Nat.blt k.val ls.length) (G n (gm_st1 ls k.val (.int x)) r h c s)
  | .istore k => gm_i1 st fun x r => gm_if (Nat.blt k ls.length) (G n (gm_st1 ls k (.int x)) r h c s)
  | .lstore_n k => gm_l1 st fun x r => gm_if (Nat.blt (k.val + 1) ls.length) (G n (gm_st2 ls k.val (.long x)) r h c s)
  | .lstore k => gm_l1 st fun x r => gm_if (Nat.blt (k + 1) ls.length) (G n (gm_st2 ls k (.long x)) r h c s)
  | .fstore k => gm_sf st fun x r => gm_if (Nat.blt k ls.length) (G n (gm_st1 ls k (.float x)) r h c s)
  | .astore_n k => gm_sa st fun x r => gm_if (Nat.blt k.val ls.length) (G n (gm_st1 ls k.val (.ref x)) r h c s)
  | .astore k => gm_sa st fun x r => gm_if (Nat.blt k ls.length) (G n (gm_st1 ls k (.ref x)) r h c s)
  | .iinc k d => gm_li (gm_nth ls k) fun x => G n (gm_st1 ls k (.int (x + gm_lit d))) st h c s
  | .iadd => gm_i2 st fun x y r => G n ls (.int (x + y) :: r) h c s
  | .isub => gm_i2 st fun x y r => G n ls (.int (x - y) :: r) h c s
  | .imul => gm_i2 st fun x y r => G n ls (.int (x * y) :: r) h c s
  | .iand => gm_i2 st fun x y r => G n ls (.int (x &&& y) :: r) h c s
  | .ior => gm_i2 st fun x y r => G n ls (.int (x ||| y) :: r) h c s
  | .ixor => gm_i2 st fun x y r => G n ls (.int (x ^^^ y) :: r) h c s
  | .ineg => gm_i1 st fun x r => G n ls (.int (-x) :: r) h c s
  | .idiv => gm_i2 st fun x y r => ¬ y = 0 ∧ G n ls (.int (x / y) :: r) h c s
  | .irem => gm_i2 st fun x y r => ¬ y = 0 ∧ G n ls (.int (x - x / y * y) :: r) h c s
  | .ishl => gm_i2 st fun x y r => G n ls (.int (x <<< (y &&& 31)) :: r) h c s
  | .ishr => gm_i2 st fun x y r => G n ls (.int (x >>> (y &&& 31)) :: r) h c s
  | .iushr => gm_i2 st fun x y r => G n ls (.int ((x.toUInt32 >>> (y.toUInt32 &&& Int32.toUInt32 31)).toInt32) :: r) h c s
  | .ladd => gm_l2 st fun x y r => G n ls (.long (x + y) :: r) h c s
  | .lmul => gm_l2 st fun x y r => G n ls (.long (x * y) :: r) h c s
  | .lsub => gm_l2 st fun x y r => G n ls (.long (x - y) :: r) h c s
  | .land => gm_l2 st fun x y r => G n ls (.long (x &&& y) :: r) h c s
  | .lor => gm_l2 st fun x y r => G n ls (.long (x ||| y) :: r) h c s
  | .lxor => gm_l2 st fun x y r => G n ls (.long (x ^^^ y) :: r) h c s
  | .lshl => gm_i1 st fun y r => gm_l1 r fun x r => G n ls (.long (x <<< (y.toInt64 &&& 63)) :: r) h c s
  | .lshr => gm_i1 st fun y r => gm_l1 r fun x r => G n ls (.long (x >>> (y.toInt64 &&& 63)) :: r) h c s
  | .lneg => gm_l1 st fun x r => G n ls (.long (-x) :: r) h c s
  | .l2i => gm_l1 st fun x r => G n ls (.int x.toInt32 :: r) h c s
  | .lcmp => gm_l2 st fun x y r => G n ls (.int (lg_cmp x y) :: r) h c s
  | .i2l => gm_i1 st fun x r => G n ls (.long x.toInt64 :: r) h c s
  | .i2c => gm_i1 st fun x r => G n ls (.int (x.toUInt32 % 65536).toInt32 :: r) h c s
  | .i2f => gm_i1 st fun x r => G n ls (.float (FP.i2f x) :: r) h c s
  | .f2d => gm_sf st fun x r => vf_n64 (FP.f2d x) ∧ G n ls (.double (FP.f2d x) :: r) h c s
  | .fdiv => match st with
    | .float y :: .float x :: r => vf_n32 (FP.fdiv x y) ∧ G n ls (.float (FP.fdiv x y) :: r) h c s
    | _ => False
  | .fcmp op => match st with
    | .float y :: .float x :: r => G n ls (.int (Op.cmpValue (FP.fcmp x y) op) :: r) h c s
    | _ => False
  | .dcmp op => match st with
    | .double y :: .double x :: r => G n ls (.int (Op.cmpValue (FP.dcmp x y) op) :: r) h c s
    | _ => False
  | .dup => match st with
    | v :: r => gm_if (gm_c1 v) (G n ls (v :: v :: r) h c s)
    | _ => False
  | .dup_x1 => match st with
    | v :: w :: r => gm_if (gm_c1 v) (gm_if (gm_c1 w) (G n ls (v :: w :: v :: r) h c s))
    | _ => False
  | .dup2 => match st with
    | v :: w :: r => gm_if (gm_c1 v) (gm_if (gm_c1 w) (G n ls (v :: w :: v :: w :: r) h c s))
    | _ => False
  | .pop => match st with
    | v :: r => gm_if (gm_c1 v) (G n ls r h c s)
    | _ => False
  | .goto o => gm_jmp pc o fun t => G t ls st h c s
  | .ifCond cd o => gm_i1 st fun x r => gm_jmp pc o fun t => (gm_ic cd x 0 → G t ls r h c s) ∧ (¬ gm_ic cd x 0 → G n ls r h c s)
  | .if_icmp cd o => gm_i2 st fun x y r => gm_jmp pc o fun t => (gm_ic cd x y → G t ls r h c s) ∧ (¬ gm_ic cd x y → G n ls r h c s)
  | .lookupswitch d ps => gm_i1 st fun x r => gm_look pc d x (fun t => G t ls r h c s) ps.toList
  | .tableswitch d lo _ os => gm_i1 st fun x r => gm_tab pc d x (fun t => G t ls r h c s) lo os.toList
  | .getfield k => gm_sa st fun a r => gm_op (gm_asc M.2.2.2.2.2.2.2.1 k) fun f => gm_ob h a fun ci fs => gm_if (Nat.beq ci f.1) (gm_op (gm_nth fs f.2) fun v => G n ls (v :: r) h c s)
  | .putfield k => match st with
    | v :: .ref a :: r => gm_op (gm_asc M.2.2.2.2.2.2.2.1 k) fun f => gm_ob h a fun ci fs => gm_op (gm_nth fs f.2) fun _ => gm_if (Nat.beq ci f.1) (gm_okx (tyf f.1 f.2) v (G n ls r (gm_set h a (.inr (ci, gm_set fs f.2 v))) c s))
    | _ => False
  | .iaload => gm_i1 st fun x r => gm_sa r fun a r => bif Nat.beq a 88888 then gm_op sq (fun q => vp_in x q.1 ∧ G n ls (.int (q.2 x.toNatClampNeg) :: r) h c s) else gm_ai h a 0 fun N f => vp_in x N ∧ G n ls (.int (f x.toNatClampNeg) :: r) h c s
  | .caload => gm_i1 st fun x r => gm_sa r fun a r => gm_ai h a 1 fun N f => vp_in x N ∧ G n ls (.int (f x.toNatClampNeg) :: r) h c s
  | .baload => gm_i1 st fun x r => gm_sa r fun a r => gm_ab h a fun _ N f => vp_in x N ∧ G n ls (.int (f x.toNatClampNeg) :: r) h c s
  | .iastore => gm_i2 st fun x y r => gm_sa r fun a r => gm_ai h a 0 fun N f => vp_in x N ∧ G n ls r (gm_set h a (.inl (0, N, .inl (upd f x.toNatClampNeg y)))) c s
  | .castore => gm_i2 st fun x y r => gm_sa r fun a r => gm_ai h a 1 fun N f => vp_in x N ∧ (0 ≤ y ∧ y ≤ 65535) ∧ G n ls r (gm_set h a (.inl (1, N, .inl (upd f x.toNatClampNeg y)))) c s
  | .bastore => gm_i2 st fun x y r => gm_sa r fun a r => gm_ab h a fun k N f => vp_in x N ∧ gm_bst k y (G n ls r (gm_set h a (.inl (k, N, .inl (upd f x.toNatClampNeg y)))) c s)
  | .arraylength => gm_sa st fun a r => bif Nat.beq a 88888 then gm_op sq (fun q => G n ls (.int (Int32.ofNat q.1) :: r) h c s) else False
  | .newarray t => gm_i1 st fun x r => ¬ x < 0 ∧ gm_if (Nat.ble x.toNatClampNeg 100000) (gm_if (gm_frs h.length r && (gm_frl h.length ls && gm_frh h.length h) && Nat.blt h.length 88888) (gm_op (gm_zero t x.toNatClampNeg) fun e => G n ls (.ref h.length :: r) (h ++ [e]) (c + 1) (s + x.toNatClampNeg)))
  | .new k => match gm_asc M.2.2.2.2.2.2.2.2.2.2.2 k with
    | some E => gm_if (Nat.ble (gm_sum st) 8) (X (.inr E) h (c + 1) (s + 6))
    | none => gm_op (gm_asc M.2.2.2.2.2.2.2.2.2.2.1 k) fun q => gm_if (gm_frs h.length st && (gm_frl h.length ls && gm_frh h.length h) && (gm_frs h.length q.2 && Nat.blt h.length 88888)) (G n ls (.ref h.length :: st) (h ++ [.inr q]) (c + 1) (s + q.2.length))
  | .invokestatic k => gm_op (gm_asc M.2.2.2.2.2.2.2.2.1 k) fun q => bif Nat.ble 100 q.2 then False else bif Nat.ble 50 q.2 then gm_op (gm_pop (q.2 - 50) [] st) (fun z => gm_if (Nat.ble (gm_sum z.2) 8) (∃ (v : Option Value) (h1 : pH) (c1 s1 : Nat), Sp q.1 z.1 h (.inl v) h1 c1 s1 ∧ G n ls (gm_vl v z.2) h1 (c + c1) (s + s1))) else gm_op (gm_pop q.2 [] st) fun z => gm_if (Nat.ble (gm_sum z.2) 8) (gm_call Sp q.1 z.1 h c s (fun v h1 c1 s1 => G n ls (gm_vl v z.2) h1 c1 s1) (gm_thr M G X pc ls))
  | .invokevirtual k => gm_op (gm_asc M.2.2.2.2.2.2.2.2.1 k) fun q => bif Nat.blt q.2 100 || Nat.ble 200 q.2 then False else gm_op (gm_pop (q.2 - 100) [] st) fun z => gm_sa z.2 fun a r => gm_ob h a fun ci _ => bif Nat.beq (q.1 / 1000) (ci + 1) then gm_if (Nat.ble (gm_sum r) 8) (gm_call Sp q.1 (.ref a :: z.1) h c s (fun v h1 c1 s1 => G n ls (gm_vl v r) h1 c1 s1) (gm_thr M G X pc ls)) else False
  | .invokespecial k => gm_op (gm_asc M.2.2.2.2.2.2.2.2.1 k) fun q => bif Nat.blt q.2 200 then False else gm_op (gm_pop (q.2 - 200) [] st) fun z => gm_sa z.2 fun a r => gm_if (Nat.ble (gm_sum r) 6) (match q.1 with
      | 0 => G n ls r h c s
      | q1 + 1 => ∃ (h1 : pH) (c1 s1 : Nat), Sp (q1 + 1) (.ref a :: z.1) h (.inl none) h1 c1 s1 ∧ gm_if (gm_frs h.length r && gm_frl h.length ls) (G n ls r h1 (c + c1) (s + s1)))
  | .ireturn => match st with
    | [.int x] => gm_okrx M.2.2.2.2.1 (some (.int x)) (X (.inl (some (.int x))) h c s)
    | _ => False
  | .lreturn => match st with
    | [.long x] => gm_okrx M.2.2.2.2.1 (some (.long x)) (X (.inl (some (.long x))) h c s)
    | _ => False
  | .freturn => match st with
    | [.float x] => gm_okrx M.2.2.2.2.1 (some (.float x)) (X (.inl (some (.float x))) h c s)
    | _ => False
  | .areturn => match st with
    | [.ref x] => gm_okrx M.2.2.2.2.1 (some (.ref x)) (X (.inl (some (.ref x))) h c s)
    | _ => False
  | .return_ => match st with
    | [] => gm_okrx M.2.2.2.2.1 none (X (.inl none) h c s)
    | _ => False
  | _ => False
/-- a predicate that goes back along the code -/
def gm_cl (M : pM) (tyf : Nat → Nat → FieldType) (sq : pQ) (Sp : pS) (G : pG) (X : pX) : Prop :=
  ∀ (pc : Nat) (i : Instr) (len : Nat), gm_asc M.2.2.2.2.2.1 pc = some (i, len) → ∀ (ls : pL) (st : List Value) (h : pH) (c s : Nat), gm_w M tyf sq Sp G X i pc (pc + len) ls st h c s → G pc ls st h c s
