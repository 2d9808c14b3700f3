/-! THE ABSTRACT MACHINE. A world is a number of cells, a number of slots, and what the cells hold; a reference is a cell's number. za_n is one step: none where the machine may not go on. -/
abbrev za_C : Type := (Nat × vp_A) ⊕ (Nat × List Value)
abbrev za_W : Type := Nat × Nat × (Nat → Option za_C)
abbrev za_L : Type := List (Nat × Value)
/-- how a method ends: it answers (a value, or nothing), or throws (a cell) -/
abbrev za_O : Type := Option Value ⊕ Nat
abbrev za_S : Type := Nat × za_L × List Value × za_W
/-- what a step does: it goes on at a state; it calls a method (its number, its arguments, the state behind it without the answer); it ends -/
abbrev za_A : Type := Option (za_S ⊕ ((Nat × List Value × za_S) ⊕ (za_O × za_W)))
def za_up (w : za_W) (k : Nat) (c : za_C) : za_W := (w.1, w.2.1, fun j => if j = k then some c else w.2.2 j)
def za_pu (w : za_W) (n : Nat) (c : za_C) : za_W := (w.1 + 1, w.2.1 + n, fun j => if j = w.1 then some c else w.2.2 j)
def za_ld (l : za_L) (i : Nat) : Option Value := (l.find? (fun q => q.1 == i)).map (·.2)
def za_s1 (l : za_L) (i : Nat) (v : Value) : za_L := (i, v) :: l.filter (fun q => !(q.1 == i) && !(q.1 + 1 == i && q.2.category == 2))
def za_s2 (l : za_L) (i : Nat) (v : Value) : za_L := (i, v) :: l.filter (fun q => !(q.1 == i) && (!(q.1 == i + 1) && !(q.1 + 1 == i && q.2.category == 2)))
def za_go (pc : Nat) (l : za_L) (st : List Value) (w : za_W) : za_A := some (.inl (pc, l, st, w))
def za_rt (o : za_O) (w : za_W) : za_A := some (.inr (.inr (o, w)))
def za_cc (me : Nat) : ByteArray := ((zt_m[me]?).map (fun q => q.2.1)).getD ByteArray.empty
def za_mx (me : Nat) : Nat := ((zt_m[me]?).map (fun q => q.2.2.1)).getD 0
def za_re (me : Nat) : Option FieldType := ((zt_m[me]?).map (fun q => q.2.2.2.1)).getD none
def za_ow (me : Nat) : Nat := ((zt_m[me]?).map (fun q => q.2.2.2.2.1)).getD 0
def za_np (me : Nat) : Nat := ((zt_m[me]?).map (fun q => q.2.2.2.2.2.1)).getD 0
def za_fr (me : Nat) : Nat := ((zt_m[me]?).map (fun q => q.2.2.2.2.2.2.1)).getD 0
def za_lo (me : Nat) : Nat := ((zt_m[me]?).map (fun q => q.2.2.2.2.2.2.2.1)).getD 0
/-- the room of method mj fits into that of me -/
def za_rm (me mj : Nat) : Bool := decide (mj < zt_mp0.length) && decide (za_fr mj + 1 ≤ za_fr me) && decide (8 + (za_mx mj + 11) + za_lo mj ≤ za_lo me)
def za_p1i (st : List Value) (f : Int32 → List Value → za_A) : za_A := match st with | .int a :: r => f a r | _ => none
def za_p2i (st : List Value) (f : Int32 → Int32 → List Value → za_A) : za_A := match st with | .int b :: .int a :: r => f a b r | _ => none
def za_p1l (st : List Value) (f : Int64 → List Value → za_A) : za_A := match st with | .long a :: r => f a r | _ => none
def za_p2l (st : List Value) (f : Int64 → Int64 → List Value → za_A) : za_A := match st with | .long b :: .long a :: r => f a b r | _ => none
def za_pil (st : List Value) (f : Int64 → Int32 → List Value → za_A) : za_A := match st with | .int b :: .long a :: r => f a b r | _ => none
def za_p1r (st : List Value) (f : Nat → List Value → za_A) : za_A := match st with | .ref a :: r => f a r | _ => none
def za_pvr (st : List Value) (f : Nat → Value → List Value → za_A) : za_A := match st with | v :: .ref a :: r => f a v r | _ => none
def za_p1 (st : List Value) (f : Value → List Value → za_A) : za_A := match st with | a :: r => f a r | _ => none
def za_p2 (st : List Value) (f : Value → Value → List Value → za_A) : za_A := match st with | b :: a :: r => f a b r | _ => none
def za_pir (st : List Value) (f : Nat → Int32 → List Value → za_A) : za_A := match st with | .int i :: .ref a :: r => f a i r | _ => none
def za_piir (st : List Value) (f : Nat → Int32 → Int32 → List Value → za_A) : za_A := match st with | .int x :: .int i :: .ref a :: r => f a i x r | _ => none
def za_plir (st : List Value) (f : Nat → Int32 → Int64 → List Value → za_A) : za_A := match st with | .long x :: .int i :: .ref a :: r => f a i x r | _ => none
def za_prir (st : List Value) (f : Nat → Int32 → Nat → List Value → za_A) : za_A := match st with | .ref x :: .int i :: .ref a :: r => f a i x r | _ => none
def za_pcp (st : List Value) (f : Nat → Int32 → Nat → Int32 → Int32 → List Value → za_A) : za_A := match st with | .int n :: .int dp :: .ref d :: .int sp :: .ref s :: r => f s sp d dp n r | _ => none
/-- RuntimeException's arguments (null, null, false, false) -/
def za_p5 (st : List Value) (f : Nat → List Value → za_A) : za_A := match st with | .int y :: .int x :: .null :: .null :: .ref a :: r => if x = 0 ∧ y = 0 then f a r else none | _ => none
def za_oi (c : Option Value) (f : Int32 → za_A) : za_A := match c with | some (.int a) => f a | _ => none
def za_ol (c : Option Value) (f : Int64 → za_A) : za_A := match c with | some (.long a) => f a | _ => none
def za_or (c : Option Value) (f : Nat → za_A) : za_A := match c with | some (.ref a) => f a | _ => none
def za_ov {α : Type} (c : Option α) (f : α → za_A) : za_A := match c with | some v => f v | none => none
def za_if (c : Prop) [Decidable c] (a : za_A) : za_A := if c then a else none
/-- the ints of an array; its longs; its references; an object's fields -/
def za_ai (c : Option za_C) (f : Nat → Nat → (Nat → Int32) → za_A) : za_A := match c with | some (.inl (t, n, .inl g)) => f t n g | _ => none
def za_al (c : Option za_C) (f : Nat → Nat → (Nat → Int64) → za_A) : za_A := match c with | some (.inl (t, n, .inr (.inl g))) => f t n g | _ => none
def za_aq (c : Option za_C) (f : Nat → Nat → (Nat → Option Nat) → za_A) : za_A := match c with | some (.inl (t, n, .inr (.inr (.inr (.inr g))))) => f t n g | _ => none
def za_ar (c : Option za_C) (f : Nat → Nat → za_A) : za_A := match c with | some (.inl (t, a)) => f t a.1 | _ => none
def za_ob (c : Option za_C) (f : Nat → List Value → za_A) : za_A := match c with | some (.inr (c', fs)) => f c' fs | _ => none
/-- a jump: to pc + off, if that is a place -/
def za_jp (pc : Nat) (off : Int) (l : za_L) (st : List Value) (w : za_W) : za_A := za_if (0 ≤ (pc : Int) + off) (za_go ((pc : Int) + off).toNat l st w)
def za_br (c : Prop) [Decidable c] (pc : Nat) (off : Int) (l : za_L) (st : List Value) (w : za_W) : za_A := za_if (0 ≤ (pc : Int) + off) (if c then za_go ((pc : Int) + off).toNat l st w else za_go (pc + 3) l st w)
def za_c1 (k : ClassFile.Cond) (pc : Nat) (off : Int) (l : za_L) (x : Int32) (st : List Value) (w : za_W) : za_A := match k with
  | .eq => za_br (x = 0) pc off l st w
  | .ne => za_br (¬ x = 0) pc off l st w
  | .lt => za_br (x < 0) pc off l st w
  | .ge => za_br (0 ≤ x) pc off l st w
  | .gt => za_br (0 < x) pc off l st w
  | .le => za_br (x ≤ 0) pc off l st w
def za_c2 (k : ClassFile.Cond) (pc : Nat) (off : Int) (l : za_L) (x y : Int32) (st : List Value) (w : za_W) : za_A := match k with
  | .eq => za_br (x = y) pc off l st w
  | .ne => za_br (¬ x = y) pc off l st w
  | .lt => za_br (x < y) pc off l st w
  | .ge => za_br (y ≤ x) pc off l st w
  | .gt => za_br (y < x) pc off l st w
  | .le => za_br (x ≤ y) pc off l st w
/-- the place of an index in an array of n -/
def za_ix (i : Int32) (n : Nat) (f : Nat → za_A) : za_A := if i < 0 ∨ n ≤ i.toNatClampNeg then none else f i.toNatClampNeg
/-- how many words of locals the arguments take -/
def za_aw (as : List Value) : Nat := (as.map fun v => v.category).sum
/-- a call of an object's method; of a static one; of a constructor -/
def za_cv (me mj pc : Nat) (l : za_L) (st : List Value) (w : za_W) : za_A :=
  za_if (za_rm me mj = true) (za_p1r (st.drop (za_np mj)) fun a r => za_if ((r.map fun v => v.category).sum ≤ 8) (za_ob (w.2.2 a) fun c _ => za_if (c = za_ow mj ∧ za_aw (.ref a :: (st.take (za_np mj)).reverse) ≤ za_mx mj) (some (.inr (.inl (mj, .ref a :: (st.take (za_np mj)).reverse, (pc + 3, l, r, w)))))))
def za_cs (me mj pc : Nat) (l : za_L) (st : List Value) (w : za_W) : za_A :=
  za_if (za_rm me mj = true) (za_if (za_np mj ≤ st.length) (za_if (((st.drop (za_np mj)).map fun v => v.category).sum ≤ 8 ∧ za_aw (st.take (za_np mj)).reverse ≤ za_mx mj) (some (.inr (.inl (mj, (st.take (za_np mj)).reverse, (pc + 3, l, st.drop (za_np mj), w)))))))
def za_ci (me mj pc : Nat) (l : za_L) (st : List Value) (w : za_W) : za_A :=
  za_if (za_rm me mj = true) (za_p1r (st.drop (za_np mj)) fun a r => za_if ((r.map fun v => v.category).sum ≤ 8 ∧ za_aw (.ref a :: (st.take (za_np mj)).reverse) ≤ za_mx mj) (some (.inr (.inl (mj, .ref a :: (st.take (za_np mj)).reverse, (pc + 3, l, r, w))))))
/-- the kind of a new array of numbers, and what it holds -/
def za_nk (a : ArrayType) : Option Nat := match a with
  | .byte => some 0
  | .int => some 1
  | .long => some 2
  | .boolean => some 3
  | _ => none
def za_na (t n : Nat) : za_C := if t = 2 then .inl (t, n, .inr (.inl fun _ => 0)) else .inl (t, n, .inl fun _ => 0)
/-- new T[n][k] -/
def za_mn (w : za_W) (n k : Nat) : za_W := (w.1 + 1 + n, w.2.1 + n + n * k, fun j => if j = w.1 then some (.inl (5, n, .inr (.inr (.inr (.inr fun i => if i < n then some (w.1 + 1 + i) else none))))) else if w.1 < j ∧ j ≤ w.1 + n then some (.inl (1, k, .inl fun _ => 0)) else w.2.2 j)
/-- how long an instruction is -/
def za_ln : Instr → Nat
  | .iload _ | .istore _ | .aload _ | .lload _ | .lstore _ | .bipush _ | .ldc _ | .newarray _ => 2
  | .sipush _ | .ldc2_w _ | .iinc _ _ | .getfield _ | .putfield _ | .invokevirtual _ | .invokestatic _ | .invokespecial _ | .new _ | .anewarray _ | .goto _ | .ifCond _ _ | .if_icmp _ _ => 3
  | .multianewarray _ _ => 4
  | _ => 1
def za_lk1 (i : Instr) (n : Nat) : Bool := match i with
  | .tableswitch _ _ _ _ => true
  | i => n == za_ln i
def za_x (me : Nat) (i : Instr) (pc : Nat) (l : za_L) (st : List Value) (w : za_W) : za_A := match i with
  | .iconst k => za_go (pc + 1) l (.int (Int32.ofInt k) :: st) w
  | .bipush k => za_go (pc + 2) l (.int (Int8.ofInt k).toInt32 :: st) w
  | .sipush k => za_go (pc + 3) l (.int (Int16.ofInt k).toInt32 :: st) w
  | .lconst k => za_go (pc + 1) l (.long (Int64.ofNat k) :: st) w
  | .aconst_null => za_go (pc + 1) l (.null :: st) w
  | .ldc j => za_ov (za_ki (za_ow me) j) fun v => za_go (pc + 2) l (.int v :: st) w
  | .ldc2_w j => za_ov (za_kl (za_ow me) j) fun v => za_go (pc + 3) l (.long v :: st) w
  | .iload_n k => za_oi (za_ld l k) fun x => za_go (pc + 1) l (.int x :: st) w
  | .iload k => za_oi (za_ld l k) fun x => za_go (pc + 2) l (.int x :: st) w
  | .lload_n k => za_ol (za_ld l k) fun x => za_go (pc + 1) l (.long x :: st) w
  | .lload k => za_ol (za_ld l k) fun x => za_go (pc + 2) l (.long x :: st) w
  | .aload_n k => za_or (za_ld l k) fun x => za_go (pc + 1) l (.ref x :: st) w
  | .aload k => za_or (za_ld l k) fun x => za_go (pc + 2) l (.ref x :: st) w
  | .istore_n k => za_if (k.val < za_mx me) (za_p1i st fun x r => za_go (pc + 1) (za_s1 l k (.int x)) r w)
  | .istore k => za_if (k < za_mx me) (za_p1i st fun x r => za_go (pc + 2) (za_s1 l k (.int x)) r w)
  | .lstore_n k => za_if (k.val + 1 < za_mx me) (za_p1l st fun x r => za_go (pc + 1) (za_s2 l k (.long x)) r w)
  | .lstore k => za_if (k + 1 < za_mx me) (za_p1l st fun x r => za_go (pc + 2) (za_s2 l k (.long x)) r w)
  | .astore_n k => za_if (k.val < za_mx me) (za_p1r st fun x r => za_go (pc + 1) (za_s1 l k (.ref x)) r w)
  | .iinc k n => za_if (k < za_mx me) (za_oi (za_ld l k) fun x => za_go (pc + 3) (za_s1 l k (.int (x + Int32.ofInt n))) st w)
  | .iadd => za_p2i st fun x y r => za_go (pc + 1) l (.int (x + y) :: r) w
  | .isub => za_p2i st fun x y r => za_go (pc + 1) l (.int (x - y) :: r) w
  | .imul => za_p2i st fun x y r => za_go (pc + 1) l (.int (x * y) :: r) w
  | .iand => za_p2i st fun x y r => za_go (pc + 1) l (.int (x &&& y) :: r) w
  | .ior => za_p2i st fun x y r => za_go (pc + 1) l (.int (x ||| y) :: r) w
  | .ixor => za_p2i st fun x y r => za_go (pc + 1) l (.int (x ^^^ y) :: r) w
  | .idiv => za_p2i st fun x y r => za_if (¬ y = 0) (za_go (pc + 1) l (.int (x / y) :: r) w)
  | .irem => za_p2i st fun x y r => za_if (¬ y = 0) (za_go (pc + 1) l (.int (x - x / y * y) :: r) w)
  | .ishl => za_p2i st fun x y r => za_go (pc + 1) l (.int (x <<< (y &&& 31)) :: r) w
  | .ishr => za_p2i st fun x y r => za_go (pc + 1) l (.int (x >>> (y &&& 31)) :: r) w
  | .iushr => za_p2i st fun x y r => za_go (pc + 1) l (.int (x.toUInt32 >>> (y.toUInt32 &&& Int32.toUInt32 31)).toInt32 :: r) w
  | .ladd => za_p2l st fun x y r => za_go (pc + 1) l (.long (x + y) :: r) w
  | .land => za_p2l st fun x y r => za_go (pc + 1) l (.long (x &&& y) :: r) w
  | .lor => za_p2l st fun x y r => za_go (pc + 1) l (.long (x ||| y) :: r) w
  | .ldiv => za_p2l st fun x y r => za_if (¬ y = 0) (za_go (pc + 1) l (.long (x / y) :: r) w)
  | .lshl => za_pil st fun x y r => za_go (pc + 1) l (.long (x <<< (y.toInt64 &&& 63)) :: r) w
  | .lshr => za_pil st fun x y r => za_go (pc + 1) l (.long (x >>> (y.toInt64 &&& 63)) :: r) w
  | .lushr => za_pil st fun x y r => za_go (pc + 1) l (.long (x.toUInt64 >>> (y.toInt64.toUInt64 &&& Int64.toUInt64 63)).toInt64 :: r) w
  | .lcmp => za_p2l st fun x y r => za_go (pc + 1) l (.int (lg_cmp x y) :: r) w
  | .i2l => za_p1i st fun x r => za_go (pc + 1) l (.long x.toInt64 :: r) w
  | .l2i => za_p1l st fun x r => za_go (pc + 1) l (.int x.toInt32 :: r) w
  | .i2b => za_p1i st fun x r => za_go (pc + 1) l (.int x.toInt8.toInt32 :: r) w
  | .dup => za_p1 st fun v r => za_if (v.category = 1) (za_go (pc + 1) l (v :: v :: r) w)
  | .pop => za_p1 st fun v r => za_if (v.category = 1) (za_go (pc + 1) l r w)
  | .dup2 => za_p2 st fun v x r => za_if (v.category = 1 ∧ x.category = 1) (za_go (pc + 1) l (x :: v :: x :: v :: r) w)
  | .goto off => za_jp pc off l st w
  | .ifCond k off => za_p1i st fun x r => za_c1 k pc off l x r w
  | .if_icmp k off => za_p2i st fun x y r => za_c2 k pc off l x y r w
  | .tableswitch dflt lo hi offs => za_p1i st fun x r => if x.toInt < lo ∨ hi < x.toInt then za_jp pc dflt l r w else za_ov offs[(x.toInt - lo).toNat]? fun off => za_jp pc off l r w
  | .getfield j => za_p1r st fun a r => za_ov (za_fd (za_ow me) j) fun q => za_ob (w.2.2 a) fun c fs => za_if (c = q.1) (za_ov fs[q.2]? fun v => za_go (pc + 3) l (v :: r) w)
  | .putfield j => za_pvr st fun a v r => za_ov (za_fd (za_ow me) j) fun q => za_ob (w.2.2 a) fun c fs => za_if (c = q.1 ∧ q.2 < fs.length ∧ fits (za_ft q.1 q.2) v = true ∧ (za_fi q.1 q.2 = true → za_im me = true ∧ q.1 = za_ow me ∧ za_fpl (za_ow me) j = true)) (za_go (pc + 3) l r (za_up w a (.inr (c, fs.set q.2 v))))
  | .arraylength => za_p1r st fun a r => za_ar (w.2.2 a) fun t n => za_if (t < 6) (za_go (pc + 1) l (.int (Int32.ofNat n) :: r) w)
  | .iaload => za_pir st fun a i r => za_ai (w.2.2 a) fun t n f => za_if (t = 1) (za_ix i n fun k => za_go (pc + 1) l (.int (f k) :: r) w)
  | .baload => za_pir st fun a i r => za_ai (w.2.2 a) fun t n f => za_if (t = 0 ∨ t = 3) (za_ix i n fun k => za_go (pc + 1) l (.int (f k) :: r) w)
  | .laload => za_pir st fun a i r => za_al (w.2.2 a) fun t n f => za_if (t = 2) (za_ix i n fun k => za_go (pc + 1) l (.long (f k) :: r) w)
  | .aaload => za_pir st fun a i r => za_aq (w.2.2 a) fun t n f => za_if (t = 4 ∨ t = 5) (za_ix i n fun k => za_ov (f k) fun b => za_go (pc + 1) l (.ref b :: r) w)
  | .iastore => za_piir st fun a i x r => za_ai (w.2.2 a) fun t n f => za_if (t = 1) (za_ix i n fun k => za_go (pc + 1) l r (za_up w a (.inl (t, n, .inl (upd f k x)))))
  | .bastore => za_piir st fun a i x r => za_ai (w.2.2 a) fun t n f => if t = 0 then za_ix i n fun k => za_go (pc + 1) l r (za_up w a (.inl (t, n, .inl (upd f k (vp_nar .byte x))))) else za_if (t = 3) (za_ix i n fun k => za_go (pc + 1) l r (za_up w a (.inl (t, n, .inl (upd f k (vp_nar .boolean x))))))
  | .lastore => za_plir st fun a i x r => za_al (w.2.2 a) fun t n f => za_if (t = 2) (za_ix i n fun k => za_go (pc + 1) l r (za_up w a (.inl (t, n, .inr (.inl (vp_updL f k x))))))
  | .aastore => za_prir st fun a i x r => za_aq (w.2.2 a) fun t n f => za_if (t = 4) (za_ix i n fun k => za_ob (w.2.2 x) fun c _ => za_if (za_kq c = some t) (za_go (pc + 1) l r (za_up w a (.inl (t, n, .inr (.inr (.inr (.inr (va_up f k (some x))))))))))
  | .new j => za_ov (za_nw (za_ow me) j) fun c => za_go (pc + 3) l (.ref w.1 :: st) (za_pu w (zt_df.getD c []).length (.inr (c, zt_df.getD c [])))
  | .newarray a => za_p1i st fun n r => za_ov (za_nk a) fun t => za_if (¬ n < 0 ∧ n.toNatClampNeg ≤ 60000000) (za_go (pc + 2) l (.ref w.1 :: r) (za_pu w n.toNatClampNeg (za_na t n.toNatClampNeg)))
  | .anewarray j => za_p1i st fun n r => za_ov ((za_nw (za_ow me) j).bind za_kq) fun t => za_if (¬ n < 0 ∧ n.toNatClampNeg ≤ 60000000) (za_go (pc + 3) l (.ref w.1 :: r) (za_pu w n.toNatClampNeg (.inl (t, n.toNatClampNeg, .inr (.inr (.inr (.inr fun _ => none)))))))
  | .multianewarray j d => za_if (d = 2 ∧ za_mm (za_ow me) j = true) (za_p2i st fun n k r => za_if (¬ n < 0 ∧ ¬ k < 0 ∧ n.toNatClampNeg ≤ 60000000 ∧ k.toNatClampNeg ≤ 60000000) (za_go (pc + 4) l (.ref w.1 :: r) (za_mn w n.toNatClampNeg k.toNatClampNeg)))
  | .invokevirtual j => za_ov (za_cl (za_ow me) j) fun q => za_if (q.1 = 0 ∨ q.1 = 1) (za_cv me q.2 pc l st w)
  | .invokestatic j => za_ov (za_cl (za_ow me) j) fun q => if q.1 = 2 ∨ q.1 = 3 then za_cs me q.2 pc l st w
      else if q.1 = 7 then za_p2i st fun x y r => za_if (1 ≤ za_fr me ∧ (r.map fun v => v.category).sum + 13 ≤ za_lo me) (za_go (pc + 3) l (.int (if x < y then y else x) :: r) w)
      else if q.1 = 8 then za_p2i st fun x y r => za_if (1 ≤ za_fr me ∧ (r.map fun v => v.category).sum + 13 ≤ za_lo me) (za_go (pc + 3) l (.int (if y < x then y else x) :: r) w)
      else za_if (q.1 = 9) (za_pcp st fun a sp d dp n r => za_if (1 ≤ za_fr me ∧ (r.map fun v => v.category).sum + (nativeFrameWords "java/lang/System" "arraycopy" 5 + 11) ≤ za_lo me) (za_ai (w.2.2 a) fun t0 n0 f => za_ai (w.2.2 d) fun t1 n1 g => za_if (t0 = t1 ∧ (t0 = 0 ∨ t0 = 1) ∧ ¬ sp < 0 ∧ ¬ dp < 0 ∧ ¬ n < 0 ∧ sp.toNatClampNeg + n.toNatClampNeg ≤ n0 ∧ dp.toNatClampNeg + n.toNatClampNeg ≤ n1 ∧ ∀ i, i < n.toNatClampNeg → fits (zt_ty.getD t0 .int) (.int (f (sp.toNatClampNeg + i))) = true) (za_go (pc + 3) l r (za_up w d (.inl (t1, n1, .inl (va_cpy f g sp.toNatClampNeg dp.toNatClampNeg n.toNatClampNeg)))))))
  | .invokespecial j => za_ov (za_cl (za_ow me) j) fun q => if q.1 = 4 ∨ q.1 = 5 then za_ci me q.2 pc l st w
      else if q.1 = 10 then za_p5 st fun a r => za_ob (w.2.2 a) fun c fs => za_if (c = 13 ∧ fs = zb_f ∧ 4 ≤ za_fr me ∧ 85 ≤ za_lo me ∧ (r.map fun v => v.category).sum ≤ 8) (za_go (pc + 3) l r w)
      else za_if (q.1 = 6) (za_p1r st fun _ r => za_if (1 ≤ za_fr me ∧ (r.map fun v => v.category).sum + 12 ≤ za_lo me) (za_go (pc + 3) l r w))
  | .athrow => za_if (me ≤ 186) (za_p1r st fun a _ => za_rt (.inr a) w)
  | .ireturn => match st with
      | [.int x] => za_if (narrow ((za_re me).getD .int) (.int x) = .int x ∧ (za_re me).isSome = true) (za_rt (.inl (some (.int x))) w)
      | _ => none
  | .lreturn => match st with
      | [.long x] => za_if (za_re me = some .long) (za_rt (.inl (some (.long x))) w)
      | _ => none
  | .return_ => match st with
      | [] => za_if (za_re me = none) (za_rt (.inl none) w)
      | _ => none
  | _ => none
def za_n (me : Nat) (s : za_S) : za_A := match decode (za_cc me) s.1 with
  | .ok (i, n) => if za_lk1 i n = true then za_x me i s.1 s.2.1 s.2.2.1 s.2.2.2 else none
  | .error _ => none
/-! RUNS: what comes out, as the least relation that the steps allow (Y: what calls give). -/
abbrev za_Y : Type := Nat → List Value → za_W → za_O → za_W → Prop
/-- the rows of the methods that take a throw themselves (open, alone): from, to, handler, the class's pool entry -/
def za_xt (me : Nat) : List (Nat × Nat × Nat × Nat) := if me = 187 then [(78, 119, 120, 13)] else if me = 188 then [(44, 100, 101, 13)] else []
def za_hr (me : Nat) : Nat × Nat × Nat × Nat := (za_xt me).headD (0, 0, 0, 0)
/-- what comes of a throw of a callee: such a method takes it, every other one goes on with it -/
def za_tk (me pc : Nat) (l : za_L) (w : za_W) (x : Nat) (K : za_S → Prop) (E : Prop) : Prop := if 186 < me then (za_hr me).1 + 3 ≤ pc ∧ pc < (za_hr me).2.1 + 3 ∧ (∃ fs, w.2.2 x = some (.inr (13, fs))) ∧ K ((za_hr me).2.2.1, l, [.ref x], w) else E
theorem za_tk.mono {me pc : Nat} {l : za_L} {w : za_W} {x : Nat} {K K' : za_S → Prop} {E E' : Prop} (hK : ∀ s, K s → K' s) (hE : E → E') (h : za_tk me pc l w x K E) : za_tk me pc l w x K' E' := by
  unfold za_tk at *
  split at h
  · rename_i c
    rw [if_pos c]
    exact ⟨h.1, h.2.1, h.2.2.1, hK _ h.2.2.2⟩
  · rename_i c
    rw [if_neg c]
    exact hE h
def za_d (me : Nat) (Y : za_Y) (E : za_O → za_W → Prop) (X : za_S → Prop) : za_A → Prop
  | some (.inl s) => X s
  | some (.inr (.inl q)) => ∃ (o : za_O) (w : za_W), Y q.1 q.2.1 q.2.2.2.2.2 o w ∧ (match o with | .inl v => X (q.2.2.1, q.2.2.2.1, v.toList ++ q.2.2.2.2.1, w) | .inr x => za_th q.1 = true ∧ za_tk me q.2.2.1 q.2.2.2.1 w x X (E (.inr x) w))
  | some (.inr (.inr q)) => E q.1 q.2
  | none => False
/-- from state s method me comes to the end (o, w) -/
def za_B (Y : za_Y) (me : Nat) (o : za_O) (w : za_W) (s : za_S) : Prop := ∀ X : za_S → Prop, (∀ s, za_d me Y (fun o' w' => o' = o ∧ w' = w) X (za_n me s) → X s) → X s
/-- method me at these arguments in this world comes to the end (o, w') -/
def za_E (me : Nat) (as : List Value) (w : za_W) (o : za_O) (w' : za_W) : Prop := ∀ Y : za_Y, (∀ me as w o w', za_B Y me o w' (0, lv_args 0 as, [], w) → Y me as w o w') → Y me as w o w'
theorem za_d.mono {me : Nat} {Y Y' : za_Y} {E E' : za_O → za_W → Prop} {X X' : za_S → Prop} (hY : ∀ a b c d e, Y a b c d e → Y' a b c d e) (hE : ∀ o w, E o w → E' o w) (hX : ∀ s, X s → X' s) : ∀ a : za_A, za_d me Y E X a → za_d me Y' E' X' a
  | none, h => h
  | some (.inl s), h => hX s h
  | some (.inr (.inr q)), h => hE _ _ h
  | some (.inr (.inl q)), ⟨.inl v, w, h1, h2⟩ => ⟨.inl v, w, hY _ _ _ _ _ h1, hX _ h2⟩
  | some (.inr (.inl q)), ⟨.inr x, w, h1, h2⟩ => ⟨.inr x, w, hY _ _ _ _ _ h1, h2.1, h2.2.mono hX (hE _ _)⟩
theorem za_B.step {Y : za_Y} {me : Nat} {o : za_O} {w : za_W} {s : za_S} (h : za_d me Y (fun o' w' => o' = o ∧ w' = w) (za_B Y me o w) (za_n me s)) : za_B Y me o w s := fun X hX => hX s (za_d.mono (fun _ _ _ _ _ h => h) (fun _ _ h => h) (fun _ h => h X hX) _ h)
theorem za_B.mono {Y Y' : za_Y} (hY : ∀ a b c d e, Y a b c d e → Y' a b c d e) {me : Nat} {o : za_O} {w : za_W} {s : za_S} (h : za_B Y me o w s) : za_B Y' me o w s := fun X hX => h X (fun s hs => hX s (za_d.mono hY (fun _ _ h => h) (fun _ h => h) _ hs))
theorem za_E.of {me : Nat} {as : List Value} {w : za_W} {o : za_O} {w' : za_W} (h : za_B za_E me o w' (0, lv_args 0 as, [], w)) : za_E me as w o w' := fun Y hY => hY _ _ _ _ _ (h.mono (fun _ _ _ _ _ h => h Y hY))
/-- a run with what holds at its end -/
def za_R (me : Nat) (s : za_S) (G : za_O → za_W → Prop) : Prop := ∃ o w, za_B za_E me o w s ∧ G o w
def za_T (me : Nat) (as : List Value) (w : za_W) (G : za_O → za_W → Prop) : Prop := ∃ o w', za_E me as w o w' ∧ G o w'
theorem za_T.of {me : Nat} {as : List Value} {w : za_W} {G : za_O → za_W → Prop} (h : za_R me (0, lv_args 0 as, [], w) G) : za_T me as w G := by
  obtain ⟨o, w', h1, h2⟩ := h
  exact ⟨o, w', za_E.of h1, h2⟩
theorem za_T.mono {me : Nat} {as : List Value} {w : za_W} {G G' : za_O → za_W → Prop} (h : za_T me as w G) (hG : ∀ o w, G o w → G' o w) : za_T me as w G' := by
  obtain ⟨o, w', h1, h2⟩ := h
  exact ⟨o, w', h1, hG _ _ h2⟩
/-- one step of a run, as a goal: X at the next state, a contract at a call, the end's words at an end -/
def za_N (me : Nat) (G : za_O → za_W → Prop) : za_A → Prop
  | some (.inl s) => za_R me s G
  | some (.inr (.inl q)) => za_T q.1 q.2.1 q.2.2.2.2.2 (fun o w => match o with | .inl v => za_R me (q.2.2.1, q.2.2.2.1, v.toList ++ q.2.2.2.2.1, w) G | .inr x => za_th q.1 = true ∧ za_tk me q.2.2.1 q.2.2.2.1 w x (fun s => za_R me s G) (G (.inr x) w))
  | some (.inr (.inr q)) => G q.1 q.2
  | none => False
theorem za_R.step {me : Nat} {s : za_S} {G : za_O → za_W → Prop} (h : za_N me G (za_n me s)) : za_R me s G := by
  cases hn : za_n me s with
  | none => rw [hn] at h; exact h.elim
  | some a =>
    rw [hn] at h
    rcases a with s' | q | q
    · obtain ⟨o, w, h1, h2⟩ := h
      exact ⟨o, w, za_B.step (by rw [hn]; exact h1), h2⟩
    · obtain ⟨o1, w1, h1, h2⟩ := h
      rcases o1 with v | a
      · obtain ⟨o, w, h3, h4⟩ := h2
        exact ⟨o, w, za_B.step (by rw [hn]; exact ⟨.inl v, w1, h1, h3⟩), h4⟩
      · obtain ⟨h2, h3⟩ := h2
        unfold za_tk at h3
        split at h3
        · rename_i c
          obtain ⟨h4, h5, h6, o, w, h7, h8⟩ := h3
          exact ⟨o, w, za_B.step (by rw [hn]; exact ⟨.inr a, w1, h1, h2, by unfold za_tk; rw [if_pos c]; exact ⟨h4, h5, h6, h7⟩⟩), h8⟩
        · rename_i c
          exact ⟨.inr a, w1, za_B.step (by rw [hn]; exact ⟨.inr a, w1, h1, h2, by unfold za_tk; rw [if_neg c]; exact ⟨rfl, rfl⟩⟩), h3⟩
    · exact ⟨q.1, q.2, za_B.step (by rw [hn]; exact ⟨rfl, rfl⟩), h⟩
