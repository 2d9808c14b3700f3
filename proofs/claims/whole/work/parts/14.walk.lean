/-! WALKING: one step of a run as an equation. -/
theorem za_R.at {me pc : Nat} {l : za_L} {st : List Value} {w : za_W} {G : za_O → za_W → Prop} {i : Instr} {n : Nat} (hd : decode (za_cc me) pc = .ok (i, n)) (hn : za_lk1 i n = true) (h : za_N me G (za_x me i pc l st w)) : za_R me (pc, l, st, w) G := by
  refine za_R.step ?_
  unfold za_n
  show za_N me G (match decode (za_cc me) pc with | .ok (i, n) => if za_lk1 i n = true then za_x me i pc l st w else none | .error _ => none)
  rw [hd]
  dsimp only
  rw [if_pos hn]
  exact h
theorem za_n.at {me pc : Nat} {cc : ByteArray} {l : za_L} {st : List Value} {w : za_W} {i : Instr} {n : Nat} (hc : za_cc me = cc) (hd : decode cc pc = .ok (i, n)) (hn : za_lk1 i n = true) : za_n me (pc, l, st, w) = za_x me i pc l st w := by
  unfold za_n
  show (match decode (za_cc me) pc with | .ok (i, n) => if za_lk1 i n = true then za_x me i pc l st w else none | .error _ => none) = _
  rw [hc, hd]
  dsimp only
  rw [if_pos hn]
theorem za_N.ite {me : Nat} {G : za_O → za_W → Prop} {c : Prop} [Decidable c] {a b : za_A} : za_N me G (if c then a else b) = if c then za_N me G a else za_N me G b := by split <;> rfl
theorem za_N.go {me : Nat} {G : za_O → za_W → Prop} {pc : Nat} {l : za_L} {st : List Value} {w : za_W} : za_N me G (za_go pc l st w) = za_R me (pc, l, st, w) G := (rfl)
theorem za_N.rt {me : Nat} {G : za_O → za_W → Prop} {o : za_O} {w : za_W} : za_N me G (za_rt o w) = G o w := (rfl)
theorem za_N.cl {me : Nat} {G : za_O → za_W → Prop} {mj pc : Nat} {as : List Value} {l : za_L} {st : List Value} {w : za_W} : za_N me G (some (.inr (.inl (mj, as, pc, l, st, w)))) = za_T mj as w (fun o w => match o with | .inl v => za_R me (pc, l, v.toList ++ st, w) G | .inr x => za_th mj = true ∧ za_tk me pc l w x (fun s => za_R me s G) (G (.inr x) w)) := (rfl)
theorem za_if.t {c : Prop} [Decidable c] (h : c) (a : za_A) : za_if c a = a := if_pos h
theorem za_up.at (w : za_W) (k : Nat) (c : za_C) (j : Nat) : (za_up w k c).2.2 j = if j = k then some c else w.2.2 j := (rfl)
theorem za_pu.at (w : za_W) (n : Nat) (c : za_C) (j : Nat) : (za_pu w n c).2.2 j = if j = w.1 then some c else w.2.2 j := (rfl)
/-- many steps at once: it stops at a branch, a call, an end, or when the number is used up -/
def za_K (me : Nat) (G : za_O → za_W → Prop) (X : za_S → Prop) : za_A → Prop
  | some (.inl s) => X s
  | a => za_N me G a
def za_g (me : Nat) (G : za_O → za_W → Prop) : List Unit → za_S → Prop
  | [] => fun s => za_R me s G
  | _ :: n => fun s => za_K me G (za_g me G n) (za_n me s)
theorem za_g.of {me : Nat} {G : za_O → za_W → Prop} : ∀ {n : List Unit} {s : za_S}, za_g me G n s → za_R me s G
  | [], _, h => h
  | _ :: n, s, h => by
    refine za_R.step ?_
    have h : za_K me G (za_g me G n) (za_n me s) := h
    cases ha : za_n me s with
    | none => rw [ha] at h; exact h
    | some a =>
      rw [ha] at h
      rcases a with s' | q
      · exact za_g.of (n := n) h
      · exact h
theorem za_g.nil {me : Nat} {G : za_O → za_W → Prop} {s : za_S} : za_g me G [] s = za_R me s G := (rfl)
theorem za_g.cons {me : Nat} {G : za_O → za_W → Prop} {n : List Unit} {u : Unit} {s : za_S} : za_g me G (u :: n) s = za_K me G (za_g me G n) (za_n me s) := (rfl)
theorem za_K.go {me : Nat} {G : za_O → za_W → Prop} {X : za_S → Prop} {pc : Nat} {l : za_L} {st : List Value} {w : za_W} : za_K me G X (za_go pc l st w) = X (pc, l, st, w) := (rfl)
theorem za_K.ite {me : Nat} {G : za_O → za_W → Prop} {X : za_S → Prop} {c : Prop} [Decidable c] {a b : za_A} : za_K me G X (if c then a else b) = if c then za_K me G X a else za_K me G X b := by split <;> rfl
theorem za_K.rt {me : Nat} {G : za_O → za_W → Prop} {X : za_S → Prop} {o : za_O} {w : za_W} : za_K me G X (za_rt o w) = G o w := (rfl)
theorem za_K.cl {me : Nat} {G : za_O → za_W → Prop} {X : za_S → Prop} {mj pc : Nat} {as : List Value} {l : za_L} {st : List Value} {w : za_W} : za_K me G X (some (.inr (.inl (mj, as, pc, l, st, w)))) = za_T mj as w (fun o w => match o with | .inl v => za_R me (pc, l, v.toList ++ st, w) G | .inr x => za_th mj = true ∧ za_tk me pc l w x (fun s => za_R me s G) (G (.inr x) w)) := (rfl)
/-! the instructions, as equations -/
/-- Math.max, Math.min -/
def zi_mx (x y : Int32) : Int32 := if x < y then y else x
def zi_mn (x y : Int32) : Int32 := if y < x then y else x
theorem zy_iconst {me pc : Nat} {l : za_L} {w : za_W} {st : List Value} {k : Int} : za_x me (.iconst k) pc l st w = za_go (pc + 1) l (.int (Int32.ofInt k) :: st) w := (rfl)
theorem zy_bipush {me pc : Nat} {l : za_L} {w : za_W} {st : List Value} {k : Int} : za_x me (.bipush k) pc l st w = za_go (pc + 2) l (.int (Int8.ofInt k).toInt32 :: st) w := (rfl)
theorem zy_sipush {me pc : Nat} {l : za_L} {w : za_W} {st : List Value} {k : Int} : za_x me (.sipush k) pc l st w = za_go (pc + 3) l (.int (Int16.ofInt k).toInt32 :: st) w := (rfl)
theorem zy_lconst {me pc : Nat} {l : za_L} {w : za_W} {st : List Value} {k : Fin 2} : za_x me (.lconst k) pc l st w = za_go (pc + 1) l (.long (Int64.ofNat k) :: st) w := (rfl)
theorem zy_null {me pc : Nat} {l : za_L} {w : za_W} {st : List Value} : za_x me .aconst_null pc l st w = za_go (pc + 1) l (.null :: st) w := (rfl)
theorem zy_ldc {me pc : Nat} {l : za_L} {w : za_W} {st : List Value} {j : Nat} : za_x me (.ldc j) pc l st w = za_ov (za_ki (za_ow me) j) fun v => za_go (pc + 2) l (.int v :: st) w := (rfl)
theorem zy_ldc2 {me pc : Nat} {l : za_L} {w : za_W} {st : List Value} {j : Nat} : za_x me (.ldc2_w j) pc l st w = za_ov (za_kl (za_ow me) j) fun v => za_go (pc + 3) l (.long v :: st) w := (rfl)
theorem zy_iload_n {me pc : Nat} {l : za_L} {w : za_W} {st : List Value} {k : Fin 4} : za_x me (.iload_n k) pc l st w = za_oi (za_ld l k) fun x => za_go (pc + 1) l (.int x :: st) w := (rfl)
theorem zy_iload {me pc : Nat} {l : za_L} {w : za_W} {st : List Value} {k : Nat} : za_x me (.iload k) pc l st w = za_oi (za_ld l k) fun x => za_go (pc + 2) l (.int x :: st) w := (rfl)
theorem zy_lload_n {me pc : Nat} {l : za_L} {w : za_W} {st : List Value} {k : Fin 4} : za_x me (.lload_n k) pc l st w = za_ol (za_ld l k) fun x => za_go (pc + 1) l (.long x :: st) w := (rfl)
theorem zy_lload {me pc : Nat} {l : za_L} {w : za_W} {st : List Value} {k : Nat} : za_x me (.lload k) pc l st w = za_ol (za_ld l k) fun x => za_go (pc + 2) l (.long x :: st) w := (rfl)
theorem zy_aload_n {me pc : Nat} {l : za_L} {w : za_W} {st : List Value} {k : Fin 4} : za_x me (.aload_n k) pc l st w = za_or (za_ld l k) fun x => za_go (pc + 1) l (.ref x :: st) w := (rfl)
theorem zy_aload {me pc : Nat} {l : za_L} {w : za_W} {st : List Value} {k : Nat} : za_x me (.aload k) pc l st w = za_or (za_ld l k) fun x => za_go (pc + 2) l (.ref x :: st) w := (rfl)
theorem zy_istore_n {me pc : Nat} {l : za_L} {w : za_W} {r : List Value} {k : Fin 4} {x : Int32} : za_x me (.istore_n k) pc l (.int x :: r) w = za_if (k.val < za_mx me) (za_go (pc + 1) (za_s1 l k (.int x)) r w) := (rfl)
theorem zy_istore {me pc : Nat} {l : za_L} {w : za_W} {r : List Value} {k : Nat} {x : Int32} : za_x me (.istore k) pc l (.int x :: r) w = za_if (k < za_mx me) (za_go (pc + 2) (za_s1 l k (.int x)) r w) := (rfl)
theorem zy_lstore_n {me pc : Nat} {l : za_L} {w : za_W} {r : List Value} {k : Fin 4} {x : Int64} : za_x me (.lstore_n k) pc l (.long x :: r) w = za_if (k.val + 1 < za_mx me) (za_go (pc + 1) (za_s2 l k (.long x)) r w) := (rfl)
theorem zy_lstore {me pc : Nat} {l : za_L} {w : za_W} {r : List Value} {k : Nat} {x : Int64} : za_x me (.lstore k) pc l (.long x :: r) w = za_if (k + 1 < za_mx me) (za_go (pc + 2) (za_s2 l k (.long x)) r w) := (rfl)
theorem zy_astore_n {me pc : Nat} {l : za_L} {w : za_W} {r : List Value} {k : Fin 4} {x : Nat} : za_x me (.astore_n k) pc l (.ref x :: r) w = za_if (k.val < za_mx me) (za_go (pc + 1) (za_s1 l k (.ref x)) r w) := (rfl)
theorem zy_iinc {me pc : Nat} {l : za_L} {w : za_W} {st : List Value} {k : Nat} {n : Int} : za_x me (.iinc k n) pc l st w = za_if (k < za_mx me) (za_oi (za_ld l k) fun x => za_go (pc + 3) (za_s1 l k (.int (x + Int32.ofInt n))) st w) := (rfl)
theorem zy_iadd {me pc : Nat} {l : za_L} {w : za_W} {r : List Value} {x y : Int32} : za_x me .iadd pc l (.int y :: .int x :: r) w = za_go (pc + 1) l (.int (x + y) :: r) w := (rfl)
theorem zy_isub {me pc : Nat} {l : za_L} {w : za_W} {r : List Value} {x y : Int32} : za_x me .isub pc l (.int y :: .int x :: r) w = za_go (pc + 1) l (.int (x - y) :: r) w := (rfl)
theorem zy_imul {me pc : Nat} {l : za_L} {w : za_W} {r : List Value} {x y : Int32} : za_x me .imul pc l (.int y :: .int x :: r) w = za_go (pc + 1) l (.int (x * y) :: r) w := (rfl)
theorem zy_iand {me pc : Nat} {l : za_L} {w : za_W} {r : List Value} {x y : Int32} : za_x me .iand pc l (.int y :: .int x :: r) w = za_go (pc + 1) l (.int (x &&& y) :: r) w := (rfl)
theorem zy_ior {me pc : Nat} {l : za_L} {w : za_W} {r : List Value} {x y : Int32} : za_x me .ior pc l (.int y :: .int x :: r) w = za_go (pc + 1) l (.int (x ||| y) :: r) w := (rfl)
theorem zy_ixor {me pc : Nat} {l : za_L} {w : za_W} {r : List Value} {x y : Int32} : za_x me .ixor pc l (.int y :: .int x :: r) w = za_go (pc + 1) l (.int (x ^^^ y) :: r) w := (rfl)
theorem zy_ishl {me pc : Nat} {l : za_L} {w : za_W} {r : List Value} {x y : Int32} : za_x me .ishl pc l (.int y :: .int x :: r) w = za_go (pc + 1) l (.int (x <<< (y &&& 31)) :: r) w := (rfl)
theorem zy_ishr {me pc : Nat} {l : za_L} {w : za_W} {r : List Value} {x y : Int32} : za_x me .ishr pc l (.int y :: .int x :: r) w = za_go (pc + 1) l (.int (x >>> (y &&& 31)) :: r) w := (rfl)
theorem zy_iushr {me pc : Nat} {l : za_L} {w : za_W} {r : List Value} {x y : Int32} : za_x me .iushr pc l (.int y :: .int x :: r) w = za_go (pc + 1) l (.int (x.toUInt32 >>> (y.toUInt32 &&& Int32.toUInt32 31)).toInt32 :: r) w := (rfl)
theorem zy_idiv {me pc : Nat} {l : za_L} {w : za_W} {r : List Value} {x y : Int32} : za_x me .idiv pc l (.int y :: .int x :: r) w = za_if (¬ y = 0) (za_go (pc + 1) l (.int (x / y) :: r) w) := (rfl)
theorem zy_irem {me pc : Nat} {l : za_L} {w : za_W} {r : List Value} {x y : Int32} : za_x me .irem pc l (.int y :: .int x :: r) w = za_if (¬ y = 0) (za_go (pc + 1) l (.int (x - x / y * y) :: r) w) := (rfl)
theorem zy_ladd {me pc : Nat} {l : za_L} {w : za_W} {r : List Value} {x y : Int64} : za_x me .ladd pc l (.long y :: .long x :: r) w = za_go (pc + 1) l (.long (x + y) :: r) w := (rfl)
theorem zy_land {me pc : Nat} {l : za_L} {w : za_W} {r : List Value} {x y : Int64} : za_x me .land pc l (.long y :: .long x :: r) w = za_go (pc + 1) l (.long (x &&& y) :: r) w := (rfl)
theorem zy_lor {me pc : Nat} {l : za_L} {w : za_W} {r : List Value} {x y : Int64} : za_x me .lor pc l (.long y :: .long x :: r) w = za_go (pc + 1) l (.long (x ||| y) :: r) w := (rfl)
theorem zy_ldiv {me pc : Nat} {l : za_L} {w : za_W} {r : List Value} {x y : Int64} : za_x me .ldiv pc l (.long y :: .long x :: r) w = za_if (¬ y = 0) (za_go (pc + 1) l (.long (x / y) :: r) w) := (rfl)
theorem zy_lshl {me pc : Nat} {l : za_L} {w : za_W} {r : List Value} {x : Int64} {y : Int32} : za_x me .lshl pc l (.int y :: .long x :: r) w = za_go (pc + 1) l (.long (x <<< (y.toInt64 &&& 63)) :: r) w := (rfl)
theorem zy_lshr {me pc : Nat} {l : za_L} {w : za_W} {r : List Value} {x : Int64} {y : Int32} : za_x me .lshr pc l (.int y :: .long x :: r) w = za_go (pc + 1) l (.long (x >>> (y.toInt64 &&& 63)) :: r) w := (rfl)
theorem zy_lushr {me pc : Nat} {l : za_L} {w : za_W} {r : List Value} {x : Int64} {y : Int32} : za_x me .lushr pc l (.int y :: .long x :: r) w = za_go (pc + 1) l (.long (x.toUInt64 >>> (y.toInt64.toUInt64 &&& Int64.toUInt64 63)).toInt64 :: r) w := (rfl)
theorem zy_lcmp {me pc : Nat} {l : za_L} {w : za_W} {r : List Value} {x y : Int64} : za_x me .lcmp pc l (.long y :: .long x :: r) w = za_go (pc + 1) l (.int (lg_cmp x y) :: r) w := (rfl)
theorem zy_i2l {me pc : Nat} {l : za_L} {w : za_W} {r : List Value} {x : Int32} : za_x me .i2l pc l (.int x :: r) w = za_go (pc + 1) l (.long x.toInt64 :: r) w := (rfl)
theorem zy_l2i {me pc : Nat} {l : za_L} {w : za_W} {r : List Value} {x : Int64} : za_x me .l2i pc l (.long x :: r) w = za_go (pc + 1) l (.int x.toInt32 :: r) w := (rfl)
theorem zy_i2b {me pc : Nat} {l : za_L} {w : za_W} {r : List Value} {x : Int32} : za_x me .i2b pc l (.int x :: r) w = za_go (pc + 1) l (.int x.toInt8.toInt32 :: r) w := (rfl)
theorem zy_dup {me pc : Nat} {l : za_L} {w : za_W} {r : List Value} {x : Value} : za_x me .dup pc l (x :: r) w = za_if (x.category = 1) (za_go (pc + 1) l (x :: x :: r) w) := (rfl)
theorem zy_pop {me pc : Nat} {l : za_L} {w : za_W} {r : List Value} {x : Value} : za_x me .pop pc l (x :: r) w = za_if (x.category = 1) (za_go (pc + 1) l r w) := (rfl)
theorem zy_dup2 {me pc : Nat} {l : za_L} {w : za_W} {r : List Value} {x y : Value} : za_x me .dup2 pc l (y :: x :: r) w = za_if (x.category = 1 ∧ y.category = 1) (za_go (pc + 1) l (y :: x :: y :: x :: r) w) := (rfl)
theorem zy_goto {me pc : Nat} {l : za_L} {w : za_W} {st : List Value} {off : Int} : za_x me (.goto off) pc l st w = za_jp pc off l st w := (rfl)
theorem zy_if_eq {me pc : Nat} {l : za_L} {w : za_W} {r : List Value} {x : Int32} {off : Int} : za_x me (.ifCond .eq off) pc l (.int x :: r) w = za_br (x = 0) pc off l r w := (rfl)
theorem zy_icmp_eq {me pc : Nat} {l : za_L} {w : za_W} {r : List Value} {x y : Int32} {off : Int} : za_x me (.if_icmp .eq off) pc l (.int y :: .int x :: r) w = za_br (x = y) pc off l r w := (rfl)
theorem zy_if_ne {me pc : Nat} {l : za_L} {w : za_W} {r : List Value} {x : Int32} {off : Int} : za_x me (.ifCond .ne off) pc l (.int x :: r) w = za_br (¬ x = 0) pc off l r w := (rfl)
theorem zy_icmp_ne {me pc : Nat} {l : za_L} {w : za_W} {r : List Value} {x y : Int32} {off : Int} : za_x me (.if_icmp .ne off) pc l (.int y :: .int x :: r) w = za_br (¬ x = y) pc off l r w := (rfl)
theorem zy_if_lt {me pc : Nat} {l : za_L} {w : za_W} {r : List Value} {x : Int32} {off : Int} : za_x me (.ifCond .lt off) pc l (.int x :: r) w = za_br (x < 0) pc off l r w := (rfl)
theorem zy_icmp_lt {me pc : Nat} {l : za_L} {w : za_W} {r : List Value} {x y : Int32} {off : Int} : za_x me (.if_icmp .lt off) pc l (.int y :: .int x :: r) w = za_br (x < y) pc off l r w := (rfl)
theorem zy_if_ge {me pc : Nat} {l : za_L} {w : za_W} {r : List Value} {x : Int32} {off : Int} : za_x me (.ifCond .ge off) pc l (.int x :: r) w = za_br (0 ≤ x) pc off l r w := (rfl)
theorem zy_icmp_ge {me pc : Nat} {l : za_L} {w : za_W} {r : List Value} {x y : Int32} {off : Int} : za_x me (.if_icmp .ge off) pc l (.int y :: .int x :: r) w = za_br (y ≤ x) pc off l r w := (rfl)
theorem zy_if_gt {me pc : Nat} {l : za_L} {w : za_W} {r : List Value} {x : Int32} {off : Int} : za_x me (.ifCond .gt off) pc l (.int x :: r) w = za_br (0 < x) pc off l r w := (rfl)
theorem zy_icmp_gt {me pc : Nat} {l : za_L} {w : za_W} {r : List Value} {x y : Int32} {off : Int} : za_x me (.if_icmp .gt off) pc l (.int y :: .int x :: r) w = za_br (y < x) pc off l r w := (rfl)
theorem zy_if_le {me pc : Nat} {l : za_L} {w : za_W} {r : List Value} {x : Int32} {off : Int} : za_x me (.ifCond .le off) pc l (.int x :: r) w = za_br (x ≤ 0) pc off l r w := (rfl)
theorem zy_icmp_le {me pc : Nat} {l : za_L} {w : za_W} {r : List Value} {x y : Int32} {off : Int} : za_x me (.if_icmp .le off) pc l (.int y :: .int x :: r) w = za_br (x ≤ y) pc off l r w := (rfl)
theorem zy_tsw {me pc : Nat} {l : za_L} {w : za_W} {r : List Value} {x : Int32} {dflt lo hi : Int} {offs : Array Int} : za_x me (.tableswitch dflt lo hi offs) pc l (.int x :: r) w = (if x.toInt < lo ∨ hi < x.toInt then za_jp pc dflt l r w else za_ov offs[(x.toInt - lo).toNat]? fun off => za_jp pc off l r w) := (rfl)
theorem zy_getf {me pc : Nat} {l : za_L} {w : za_W} {r : List Value} {a j : Nat} : za_x me (.getfield j) pc l (.ref a :: r) w = za_ov (za_fd (za_ow me) j) fun q => za_ob (w.2.2 a) fun c fs => za_if (c = q.1) (za_ov fs[q.2]? fun v => za_go (pc + 3) l (v :: r) w) := (rfl)
theorem zy_putf {me pc : Nat} {l : za_L} {w : za_W} {r : List Value} {a j : Nat} {v : Value} : za_x me (.putfield j) pc l (v :: .ref a :: r) w = za_ov (za_fd (za_ow me) j) fun q => za_ob (w.2.2 a) fun c fs => za_if (c = q.1 ∧ q.2 < fs.length ∧ fits (za_ft q.1 q.2) v = true ∧ (za_fi q.1 q.2 = true → za_im me = true ∧ q.1 = za_ow me ∧ za_fpl (za_ow me) j = true)) (za_go (pc + 3) l r (za_up w a (.inr (c, fs.set q.2 v)))) := (rfl)
theorem zy_alen {me pc : Nat} {l : za_L} {w : za_W} {r : List Value} {a : Nat} : za_x me .arraylength pc l (.ref a :: r) w = za_ar (w.2.2 a) fun t n => za_if (t < 6) (za_go (pc + 1) l (.int (Int32.ofNat n) :: r) w) := (rfl)
theorem zy_iald {me pc : Nat} {l : za_L} {w : za_W} {r : List Value} {a : Nat} {i : Int32} : za_x me .iaload pc l (.int i :: .ref a :: r) w = za_ai (w.2.2 a) fun t n f => za_if (t = 1) (za_ix i n fun k => za_go (pc + 1) l (.int (f k) :: r) w) := (rfl)
theorem zy_bald {me pc : Nat} {l : za_L} {w : za_W} {r : List Value} {a : Nat} {i : Int32} : za_x me .baload pc l (.int i :: .ref a :: r) w = za_ai (w.2.2 a) fun t n f => za_if (t = 0 ∨ t = 3) (za_ix i n fun k => za_go (pc + 1) l (.int (f k) :: r) w) := (rfl)
theorem zy_lald {me pc : Nat} {l : za_L} {w : za_W} {r : List Value} {a : Nat} {i : Int32} : za_x me .laload pc l (.int i :: .ref a :: r) w = za_al (w.2.2 a) fun t n f => za_if (t = 2) (za_ix i n fun k => za_go (pc + 1) l (.long (f k) :: r) w) := (rfl)
theorem zy_aald {me pc : Nat} {l : za_L} {w : za_W} {r : List Value} {a : Nat} {i : Int32} : za_x me .aaload pc l (.int i :: .ref a :: r) w = za_aq (w.2.2 a) fun t n f => za_if (t = 4 ∨ t = 5) (za_ix i n fun k => za_ov (f k) fun b => za_go (pc + 1) l (.ref b :: r) w) := (rfl)
theorem zy_iast {me pc : Nat} {l : za_L} {w : za_W} {r : List Value} {a : Nat} {i : Int32} {x : Int32} : za_x me .iastore pc l (.int x :: .int i :: .ref a :: r) w = za_ai (w.2.2 a) fun t n f => za_if (t = 1) (za_ix i n fun k => za_go (pc + 1) l r (za_up w a (.inl (t, n, .inl (upd f k x))))) := (rfl)
theorem zy_bast {me pc : Nat} {l : za_L} {w : za_W} {r : List Value} {a : Nat} {i : Int32} {x : Int32} : za_x me .bastore pc l (.int x :: .int i :: .ref a :: r) w = za_ai (w.2.2 a) fun t n f => if t = 0 then za_ix i n fun k => za_go (pc + 1) l r (za_up w a (.inl (t, n, .inl (upd f k (vp_nar .byte x))))) else za_if (t = 3) (za_ix i n fun k => za_go (pc + 1) l r (za_up w a (.inl (t, n, .inl (upd f k (vp_nar .boolean x)))))) := (rfl)
theorem zy_last {me pc : Nat} {l : za_L} {w : za_W} {r : List Value} {a : Nat} {i : Int32} {x : Int64} : za_x me .lastore pc l (.long x :: .int i :: .ref a :: r) w = za_al (w.2.2 a) fun t n f => za_if (t = 2) (za_ix i n fun k => za_go (pc + 1) l r (za_up w a (.inl (t, n, .inr (.inl (vp_updL f k x)))))) := (rfl)
theorem zy_aast {me pc : Nat} {l : za_L} {w : za_W} {r : List Value} {a : Nat} {i : Int32} {x : Nat} : za_x me .aastore pc l (.ref x :: .int i :: .ref a :: r) w = za_aq (w.2.2 a) fun t n f => za_if (t = 4) (za_ix i n fun k => za_ob (w.2.2 x) fun c _ => za_if (za_kq c = some t) (za_go (pc + 1) l r (za_up w a (.inl (t, n, .inr (.inr (.inr (.inr (va_up f k (some x)))))))))) := (rfl)
theorem zy_new {me pc : Nat} {l : za_L} {w : za_W} {st : List Value} {j : Nat} : za_x me (.new j) pc l st w = za_ov (za_nw (za_ow me) j) fun c => za_go (pc + 3) l (.ref w.1 :: st) (za_pu w (zt_df.getD c []).length (.inr (c, zt_df.getD c []))) := (rfl)
theorem zy_newa {me pc : Nat} {l : za_L} {w : za_W} {r : List Value} {a : ArrayType} {n : Int32} : za_x me (.newarray a) pc l (.int n :: r) w = za_ov (za_nk a) fun t => za_if (¬ n < 0 ∧ n.toNatClampNeg ≤ 60000000) (za_go (pc + 2) l (.ref w.1 :: r) (za_pu w n.toNatClampNeg (za_na t n.toNatClampNeg))) := (rfl)
theorem zy_newm {me pc : Nat} {l : za_L} {w : za_W} {r : List Value} {j : Nat} {n k : Int32} : za_x me (.multianewarray j 2) pc l (.int k :: .int n :: r) w = za_if (za_mm (za_ow me) j = true) (za_if (¬ n < 0 ∧ ¬ k < 0 ∧ n.toNatClampNeg ≤ 60000000 ∧ k.toNatClampNeg ≤ 60000000) (za_go (pc + 4) l (.ref w.1 :: r) (za_mn w n.toNatClampNeg k.toNatClampNeg))) := by
  show za_if (2 = 2 ∧ za_mm (za_ow me) j = true) _ = _
  unfold za_if
  simp only [true_and]
  rfl
theorem zy_newq {me pc : Nat} {l : za_L} {w : za_W} {r : List Value} {j : Nat} {n : Int32} : za_x me (.anewarray j) pc l (.int n :: r) w = za_ov ((za_nw (za_ow me) j).bind za_kq) fun t => za_if (¬ n < 0 ∧ n.toNatClampNeg ≤ 60000000) (za_go (pc + 3) l (.ref w.1 :: r) (za_pu w n.toNatClampNeg (.inl (t, n.toNatClampNeg, .inr (.inr (.inr (.inr fun _ => none))))))) := (rfl)
theorem zy_invv {me pc : Nat} {l : za_L} {w : za_W} {st : List Value} {j : Nat} : za_x me (.invokevirtual j) pc l st w = za_ov (za_cl (za_ow me) j) fun q => za_if (q.1 = 0 ∨ q.1 = 1) (za_cv me q.2 pc l st w) := (rfl)
theorem zy_iret {me pc : Nat} {l : za_L} {w : za_W} {x : Int32} : za_x me .ireturn pc l [.int x] w = za_if (narrow ((za_re me).getD .int) (.int x) = .int x ∧ (za_re me).isSome = true) (za_rt (.inl (some (.int x))) w) := (rfl)
theorem zy_lret {me pc : Nat} {l : za_L} {w : za_W} {x : Int64} : za_x me .lreturn pc l [.long x] w = za_if (za_re me = some .long) (za_rt (.inl (some (.long x))) w) := (rfl)
theorem zy_vret {me pc : Nat} {l : za_L} {w : za_W}  : za_x me .return_ pc l [] w = za_if (za_re me = none) (za_rt (.inl none) w) := (rfl)
theorem zy_invs {me pc : Nat} {l : za_L} {w : za_W} {st : List Value} {j : Nat} {k mj : Nat} (h : za_cl (za_ow me) j = some (k, mj)) (hk : k = 2 ∨ k = 3) : za_x me (.invokestatic j) pc l st w = za_cs me mj pc l st w := by
  show za_ov (za_cl (za_ow me) j) _ = _
  rw [h]
  exact if_pos hk
theorem zy_invi {me pc : Nat} {l : za_L} {w : za_W} {st : List Value} {j : Nat} {k mj : Nat} (h : za_cl (za_ow me) j = some (k, mj)) (hk : k = 4 ∨ k = 5) : za_x me (.invokespecial j) pc l st w = za_ci me mj pc l st w := by
  show za_ov (za_cl (za_ow me) j) _ = _
  rw [h]
  exact if_pos hk
theorem zy_brk {me pc : Nat} {l : za_L} {w : za_W} {r : List Value} {j a : Nat} (h : za_cl (za_ow me) j = some (10, 0)) : za_x me (.invokespecial j) pc l (.int 0 :: .int 0 :: .null :: .null :: .ref a :: r) w = za_ob (w.2.2 a) fun c fs => za_if (c = 13 ∧ fs = zb_f ∧ 4 ≤ za_fr me ∧ 85 ≤ za_lo me ∧ (r.map fun v => v.category).sum ≤ 8) (za_go (pc + 3) l r w) := by
  show za_ov (za_cl (za_ow me) j) _ = _
  rw [h]
  rfl
theorem zy_obj {me pc : Nat} {l : za_L} {w : za_W} {r : List Value} {j a : Nat} (h : za_cl (za_ow me) j = some (6, 0)) : za_x me (.invokespecial j) pc l (.ref a :: r) w = za_if (1 ≤ za_fr me ∧ (r.map fun v => v.category).sum + 12 ≤ za_lo me) (za_go (pc + 3) l r w) := by
  show za_ov (za_cl (za_ow me) j) _ = _
  rw [h]
  rfl
theorem zy_max {me pc : Nat} {l : za_L} {w : za_W} {r : List Value} {x y : Int32} {j : Nat} (h : za_cl (za_ow me) j = some (7, 0)) : za_x me (.invokestatic j) pc l (.int y :: .int x :: r) w = za_if (1 ≤ za_fr me ∧ (r.map fun v => v.category).sum + 13 ≤ za_lo me) (za_go (pc + 3) l (.int (zi_mx x y) :: r) w) := by
  show za_ov (za_cl (za_ow me) j) _ = _
  rw [h]
  rfl
theorem zy_min {me pc : Nat} {l : za_L} {w : za_W} {r : List Value} {x y : Int32} {j : Nat} (h : za_cl (za_ow me) j = some (8, 0)) : za_x me (.invokestatic j) pc l (.int y :: .int x :: r) w = za_if (1 ≤ za_fr me ∧ (r.map fun v => v.category).sum + 13 ≤ za_lo me) (za_go (pc + 3) l (.int (zi_mn x y) :: r) w) := by
  show za_ov (za_cl (za_ow me) j) _ = _
  rw [h]
  rfl
theorem zy_cpy {me pc : Nat} {l : za_L} {w : za_W} {r : List Value} {sp dp n : Int32} {a d j : Nat} (h : za_cl (za_ow me) j = some (9, 0)) : za_x me (.invokestatic j) pc l (.int n :: .int dp :: .ref d :: .int sp :: .ref a :: r) w = za_if (1 ≤ za_fr me ∧ (r.map fun v => v.category).sum + (nativeFrameWords "java/lang/System" "arraycopy" 5 + 11) ≤ za_lo me) (za_ai (w.2.2 a) fun t0 n0 f => za_ai (w.2.2 d) fun t1 n1 g => za_if (t0 = t1 ∧ (t0 = 0 ∨ t0 = 1) ∧ ¬ sp < 0 ∧ ¬ dp < 0 ∧ ¬ n < 0 ∧ sp.toNatClampNeg + n.toNatClampNeg ≤ n0 ∧ dp.toNatClampNeg + n.toNatClampNeg ≤ n1 ∧ ∀ i, i < n.toNatClampNeg → fits (zt_ty.getD t0 .int) (.int (f (sp.toNatClampNeg + i))) = true) (za_go (pc + 3) l r (za_up w d (.inl (t1, n1, .inl (va_cpy f g sp.toNatClampNeg dp.toNatClampNeg n.toNatClampNeg)))))) := by
  show za_ov (za_cl (za_ow me) j) _ = _
  rw [h]
  rfl
theorem zy_athrow {me pc : Nat} {l : za_L} {w : za_W} {r : List Value} {a : Nat} : za_x me .athrow pc l (.ref a :: r) w = za_if (me ≤ 186) (za_rt (.inr a) w) := (rfl)
theorem za_K.no {me : Nat} {G : za_O → za_W → Prop} {X : za_S → Prop} : za_K me G X none = False := (rfl)
theorem za_N.no {me : Nat} {G : za_O → za_W → Prop} : za_N me G none = False := (rfl)
theorem zz_fi (x : Int32) : fits .int (.int x) = true := (rfl)
theorem zz_fl (x : Int64) : fits .long (.long x) = true := (rfl)
theorem zz_fo (c : String) (a : Nat) : fits (.object c) (.ref a) = true := (rfl)
theorem zz_fa (t : FieldType) (a : Nat) : fits (.array t) (.ref a) = true := (rfl)
theorem zz_ni (x : Int32) : narrow .int (.int x) = .int x := (rfl)
theorem zz_ar (l v : Nat) (x : Value) : True := trivial
theorem za_jp.at {me pc tgt : Nat} {off : Int} {l : za_L} {st : List Value} {w : za_W} (h : (pc : Int) + off = (tgt : Int)) : za_x me (.goto off) pc l st w = za_go tgt l st w := by
  show za_if (0 ≤ (pc : Int) + off) (za_go ((pc : Int) + off).toNat l st w) = _
  rw [h, Int.toNat_natCast]
  exact if_pos (Int.natCast_nonneg _)
theorem zz_nfw : nativeFrameWords "java/lang/System" "arraycopy" 5 = 7 := by decide +kernel
theorem zz_t0 : zt_ty.getD 0 .int = .byte := (rfl)
theorem zz_t1 : zt_ty.getD 1 .int = .int := (rfl)
theorem zz_os (v : Value) : (some v).toList = [v] := (rfl)
theorem zz_on : (none : Option Value).toList = [] := (rfl)
theorem zz_itf {c p : Prop} [Decidable c] : (if c then p else False) = (c ∧ p) := by by_cases h : c <;> simp [h]
theorem zz_ft {c p : Prop} [Decidable c] : (if c then False else p) = (¬ c ∧ p) := by by_cases h : c <;> simp [h]
theorem zz_nb0 : (narrow .boolean (.int 0) = .int 0) = True := by decide
theorem zz_nb1 : (narrow .boolean (.int 1) = .int 1) = True := by decide
