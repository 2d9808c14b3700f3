/-! FROM THE ABSTRACT MACHINE TO THE MACHINE, 3: the instructions, calls apart. -/
section ZT
variable {p : Program} {L : Launch} {e : Env} {R : Room} {s : State} {m : MethodId} {args : Array Value} {below : List Frame} {meth : Method} {c : Code} {me : Nat} {D : va_G} {cA : Nat → ClassId} {A : Nat → Prop} {ad0 : Nat → Nat} {w0 wz : za_W} {v : za_O} {X : za_S → Prop} {Y : za_Y}
theorem za_I.at {H0 H : Heap} {locs : List Loc} {ls : Array Slot} {nL : Nat} {ad : Nat → Nat} {l : za_L} {st : List Value} {w : za_W} (I : za_I D cA A H0 H locs ls nL ad l st w) {i : Nat} {x : Value} (h : za_ld l i = some x) : ls[i]? = some (.val (za_v ad x)) := I.2.2.2.2.2.2.2.2.2 (i, za_v ad x) (List.mem_map.mpr ⟨(i, x), za_ld.mem h, rfl⟩)
theorem za_I.lv {H0 H : Heap} {locs : List Loc} {ls : Array Slot} {nL : Nat} {ad : Nat → Nat} {l : za_L} {st : List Value} {w : za_W} (I : za_I D cA A H0 H locs ls nL ad l st w) : lv_has ls nL (l.map fun q => (q.1, za_v ad q.2)) := I.2.2.2.2.2.2.2
theorem za_I.P {H0 H : Heap} {locs : List Loc} {ls : Array Slot} {nL : Nat} {ad : Nat → Nat} {l : za_L} {st : List Value} {w : za_W} (I : za_I D cA A H0 H locs ls nL ad l st w) : va_P D vwCl (za_l ad cA w) H := I.1
theorem za_I.dd {H0 H : Heap} {locs : List Loc} {ls : Array Slot} {nL : Nat} {ad : Nat → Nat} {l : za_L} {st : List Value} {w : za_W} (I : za_I D cA A H0 H locs ls nL ad l st w) : va_D A (za_l ad cA w) := I.2.1
theorem za_I.S {H0 H : Heap} {locs : List Loc} {ls : Array Slot} {nL : Nat} {ad : Nat → Nat} {l : za_L} {st : List Value} {w : za_W} (I : za_I D cA A H0 H locs ls nL ad l st w) : va_S A H0 H locs := I.2.2.1
theorem za_I.aa {H0 H : Heap} {locs : List Loc} {ls : Array Slot} {nL : Nat} {ad : Nat → Nat} {l : za_L} {st : List Value} {w : za_W} (I : za_I D cA A H0 H locs ls nL ad l st w) : ∀ q, H0.size ≤ q → A q := I.2.2.2.1
theorem za_I.W {H0 H : Heap} {locs : List Loc} {ls : Array Slot} {nL : Nat} {ad : Nat → Nat} {l : za_L} {st : List Value} {w : za_W} (I : za_I D cA A H0 H locs ls nL ad l st w) : za_kw w := I.2.2.2.2.1
theorem za_ld.k {n : Nat} {l : za_L} (hl : ∀ q ∈ l, za_k n q.2) {i : Nat} {x : Value} (h : za_ld l i = some x) : za_k n x := hl (i, x) (za_ld.mem h)
theorem za_Z.br {E : za_O → za_W → Prop} {b : Prop} [Decidable b] {pc : Nat} {off : Int} {l : za_L} {st r : List Value} {w : za_W} (hX : ∀ s', X s' → za_Z p L e R s m args below meth c me D cA A ad0 w0 wz v s'.1 s'.2.1 s'.2.2.1 s'.2.2.2) (h : za_d me Y E X (za_br b pc off l r w)) (hk : (∀ v ∈ st, za_k w.1 v) → ∀ v ∈ r, za_k w.1 v)
    (kk : ∀ (ad : Nat → Nat) (H : Heap) (locs : List Loc) (ls : Array Slot) (cells slots tgt : Nat), (pc : Int) + off = (tgt : Int) → (b → W p L e R s m args below meth c H locs cells slots (za_MQ below (za_Q D cA A ad0 w0 v wz) args s (wz.1 - w0.1) (wz.2.1 - w0.2.1) A) (F0 m tgt ls (r.map (za_v ad)))) → (¬ b → W p L e R s m args below meth c H locs cells slots (za_MQ below (za_Q D cA A ad0 w0 v wz) args s (wz.1 - w0.1) (wz.2.1 - w0.2.1) A) (F0 m (pc + 3) ls (r.map (za_v ad)))) → W p L e R s m args below meth c H locs cells slots (za_MQ below (za_Q D cA A ad0 w0 v wz) args s (wz.1 - w0.1) (wz.2.1 - w0.2.1) A) (F0 m pc ls (st.map (za_v ad)))) : za_Z p L e R s m args below meth c me D cA A ad0 w0 wz v pc l st w := by
  obtain ⟨h1, h⟩ := za_if.iv (P := za_d me Y E X) (fun h => h) h
  have ht : (pc : Int) + off = (((pc : Int) + off).toNat : Int) := (Int.toNat_of_nonneg h1).symm
  by_cases hb : b
  · rw [if_pos hb] at h
    exact za_Z.st (hX _ h) (fun _ _ k => hk k) (fun ad H locs ls cells slots _ k => kk ad H locs ls cells slots _ ht (fun _ => k) (fun n => absurd hb n))
  · rw [if_neg hb] at h
    exact za_Z.st (hX _ h) (fun _ _ k => hk k) (fun ad H locs ls cells slots _ k => kk ad H locs ls cells slots _ ht (fun n => absurd n hb) (fun _ => k))
theorem za_fit {ty : FieldType} (h1 : ty ≠ .byte) (h2 : ty ≠ .char) (h3 : ty ≠ .short) {x : Value} (h : fits ty x = true) (ad : Nat → Nat) : narrow ty (za_v ad x) = za_v ad x ∧ fits ty (za_v ad x) = true := by
  cases ty <;> cases x <;> first | exact ⟨rfl, h⟩ | exact ⟨rfl, rfl⟩ | exact absurd rfl h1 | exact absurd rfl h2 | exact absurd rfl h3 | (exfalso; revert h; decide) | skip
  · rename_i y
    refine ⟨?_, h⟩
    have h : (y == 0 || y == 1) = true := h
    show Value.int (y &&& 1) = .int y
    rcases Bool.or_eq_true_iff.mp h with h | h <;> · rw [beq_iff_eq.mp h]; rfl
theorem zt_f_pl {o i : Nat} {q : Nat × Nat} (h : za_fd o i = some q) (hp : za_fpl o i = true) {c : vw_C} (hc : vwCl[q.1]? = some c) : Cond.fieldLink (za_rn o) i c.1 (c.2.1 q.2).2.1 (c.2.1 q.2).2.2.1 ∈ za_tg := by
  unfold za_fd at h
  unfold za_fpl at hp
  cases hf : zt_f.find? (fun e => e.1 == o && e.2.1 == i) with
  | none => rw [hf] at h; cases h
  | some e =>
    rw [hf] at h hp
    cases h
    have h1 := List.all_eq_true.mp zt_f_ok e (List.mem_of_find?_eq_some hf)
    have h2 := List.find?_some hf
    simp only [Bool.and_eq_true, beq_iff_eq] at h2
    obtain ⟨rfl, rfl⟩ := h2
    have h3 : e.2.2.2.2.1 = "" := of_decide_eq_true hp
    unfold zt_fk at h1
    rw [hc] at h1
    simp only [Bool.and_eq_true, decide_eq_true_eq, h3, if_true] at h1
    exact za_tg.of (h1.2) rfl
theorem zt_rn_of {ci : Nat} {q : vw_C} (h : vwCl[ci]? = some q) : q.1 = za_rn ci := by
  have hl : ci < 15 := (List.getElem?_eq_some_iff.mp h).1
  have h1 := List.all_eq_true.mp zt_rns ci (List.mem_range.mpr hl)
  have h2 := of_decide_eq_true h1
  rw [h] at h2
  exact Option.some.inj h2
theorem za_kq.of {c t : Nat} (h : za_kq c = some t) : ∃ q : vw_C, vwCl[c]? = some q ∧ q.1 = "SortPacks$Codes" := by
  unfold za_kq at h
  split at h
  · rename_i hc
    subst hc
    exact ⟨_, rfl, rfl⟩
  · cases h
theorem za_df.no (c : Nat) : ∀ y ∈ zt_df.getD c [], ∀ k, y ≠ .ref k := by
  intro y hy k e
  subst e
  have h1 : (zt_df.getD c []).all (fun v => match v with | .ref _ => false | _ => true) = true := by
    rw [List.getD_eq_getElem?_getD]
    cases hc : zt_df[c]? with
    | none => rfl
    | some l => exact List.all_eq_true.mp zt_dfs l (List.mem_of_getElem? hc)
  have h2 := List.all_eq_true.mp h1 _ hy
  cases h2
theorem za_df.k (c : Nat) : ∀ y ∈ zt_df.getD c [], ∀ k, za_k k y := by
  intro y hy k
  have h := za_df.no c y hy
  cases y <;> first | trivial | exact absurd rfl (h _)
theorem za_df.map (c : Nat) (ad : Nat → Nat) : (zt_df.getD c []).map (za_v ad) = zt_df.getD c [] := by
  rw [List.map_congr_left (g := id) (fun y hy => ?_), List.map_id]
  have h := za_df.no c y hy
  cases y <;> first | rfl | exact absurd rfl (h _)
theorem za_na.k (t n : Nat) : ∀ k, za_kc k (za_na t n) := by
  intro k
  unfold za_na
  split <;> trivial
def za_rti (me : Nat) (st : List Value) (w : za_W) : za_A := match st with
  | [.int x] => za_if (narrow ((za_re me).getD .int) (.int x) = .int x ∧ (za_re me).isSome = true) (za_rt (.inl (some (.int x))) w)
  | _ => none
def za_rtl (me : Nat) (st : List Value) (w : za_W) : za_A := match st with
  | [.long x] => za_if (za_re me = some .long) (za_rt (.inl (some (.long x))) w)
  | _ => none
def za_rtv (me : Nat) (st : List Value) (w : za_W) : za_A := match st with
  | [] => za_if (za_re me = none) (za_rt (.inl none) w)
  | _ => none
theorem za_rti.iv {E : za_O → za_W → Prop} {st : List Value} {w : za_W} (h : za_d me Y E X (za_rti me st w)) : ∃ x, st = [.int x] ∧ narrow ((za_re me).getD .int) (.int x) = .int x ∧ (za_re me).isSome = true ∧ E (.inl (some (.int x))) w := by
  unfold za_rti at h
  split at h
  · obtain ⟨⟨h1, h2⟩, h3⟩ := za_if.iv (P := za_d me Y E X) (fun h => h) h
    exact ⟨_, rfl, h1, h2, h3⟩
  · exact h.elim
theorem za_rtl.iv {E : za_O → za_W → Prop} {st : List Value} {w : za_W} (h : za_d me Y E X (za_rtl me st w)) : ∃ x, st = [.long x] ∧ za_re me = some .long ∧ E (.inl (some (.long x))) w := by
  unfold za_rtl at h
  split at h
  · obtain ⟨h1, h3⟩ := za_if.iv (P := za_d me Y E X) (fun h => h) h
    exact ⟨_, rfl, h1, h3⟩
  · exact h.elim
theorem za_rtv.iv {E : za_O → za_W → Prop} {st : List Value} {w : za_W} (h : za_d me Y E X (za_rtv me st w)) : st = [] ∧ za_re me = none ∧ E (.inl none) w := by
  unfold za_rtv at h
  split at h
  · obtain ⟨h1, h3⟩ := za_if.iv (P := za_d me Y E X) (fun h => h) h
    exact ⟨rfl, h1, h3⟩
  · exact h.elim
end ZT
section ZR
variable {p : Program} {L : Launch} {e : Env} {R : Room} {s : State} {m : MethodId} {args : Array Value} {below : List Frame} {meth : Method} {c : Code} {me : Nat} {D : va_G} {cA : Nat → ClassId} {A : Nat → Prop} {ad0 : Nat → Nat} {w0 wz : za_W} {v : za_O} {X : za_S → Prop} {Y : za_Y}
variable {H : Heap} {locs : List Loc} {cells slots : Nat} {Q : State → Prop} {cc : ByteArray} {pc : Nat} {ls : Array Slot} {rest : List Value} {ad : Nat → Nat} {w : za_W} {H0 : Heap}
theorem za_aald {t a b n : Nat} {ty : FieldType} {g : Nat → Option Nat} {i : Int32} (hty : zt_ty[t]? = some ty) (href : ty.isReference = true) (hx : p.tables.exec = Jvm.exec) (hb : c.code = cc) (hK : va_K D vwCl (za_t cA) s) (hP : va_P D vwCl (za_l ad cA w) H) (kw : za_kw w) (hc : w.2.2 a = some (.inl (t, n, .inr (.inr (.inr (.inr g)))))) (hin : vp_in i n) (hg : g i.toNatClampNeg = some b) (hd : decode cc pc = .ok (.aaload, 1))
    (k : W p L e R s m args below meth c H locs cells slots Q (F0 m (pc + 1) ls (.ref (ad b) :: rest))) : W p L e R s m args below meth c H locs cells slots Q (F0 m pc ls (.int i :: .ref (ad a) :: rest)) := by
  have hlt : i.toNatClampNeg < n := Nat.not_le.mp fun q => hin (Or.inr q)
  have hcell : H[ad a]? = some (arrV (cA t) n (fun j => va_rf ((g j).map ad))) := (hP a _ (za_l.at kw hc)).trans (by show some (vp_cell _ _) = _; rw [vp_cell_q])
  refine W.aald (v := .ref (ad b)) (ty := ty) hx hb hcell ((hK.2 t _ (za_t.at cA hty)).1 n (fun j => va_rf ((g j).map ad))) href (fun q => by cases q) (by rw [arrV_size]; exact hin) ?_ rfl rfl hd k
  rw [arrV_read _ _ hlt, hg]
  rfl
theorem za_len {t a : Nat} {x : vp_A} (hx : p.tables.exec = Jvm.exec) (hb : c.code = cc) (hK : va_K D vwCl (za_t cA) s) (hP : va_P D vwCl (za_l ad cA w) H) (kw : za_kw w) (hc : w.2.2 a = some (.inl (t, x))) (ht : t < 6) (hd : decode cc pc = .ok (.arraylength, 1))
    (k : W p L e R s m args below meth c H locs cells slots Q (F0 m (pc + 1) ls (.int (Int32.ofNat x.1) :: rest))) : W p L e R s m args below meth c H locs cells slots Q (F0 m pc ls (.ref (ad a) :: rest)) := by
  have hl := za_l.at (ad := ad) (cA := cA) kw hc
  obtain ⟨ty, hty⟩ : ∃ ty, zt_ty[t]? = some ty := ⟨zt_ty[t]'(by show t < 6; exact ht), List.getElem?_eq_getElem _⟩
  obtain ⟨n, f | f | f | f | f⟩ := x <;> exact va_alen hx hb hK hP a t hl (za_t.at cA hty) rfl hd k
theorem za_cls {cls cl2 : ClassId} {ty : FieldType} (h1 : va_RA s cls ty) (h2 : va_RA s cl2 ty) : cls = cl2 := by
  have e1 : s.vm.findClass ("[" ++ ty.toString) = some cls := by
    cases ty <;> first | exact h1 | (obtain ⟨_, _, _, _, _, h⟩ := h1; exact h)
  have e2 : s.vm.findClass ("[" ++ ty.toString) = some cl2 := by
    cases ty <;> first | exact h2 | (obtain ⟨_, _, _, _, _, h⟩ := h2; exact h)
  exact Option.some.inj (e1.symm.trans e2)
theorem za_last {α : Type} (l : List α) (a : α) : (l ++ [a])[l.length]? = some a := by simp
theorem za_newa {a : ArrayType} {t : Nat} {x : Int32} (ht : za_nk a = some t) (hx : p.tables.exec = Jvm.exec) (hb : c.code = cc) (hts : ∀ w ∈ za_tg, w.before args s = true) (hK : va_K D vwCl (za_t cA) s) (hP : va_P D vwCl (za_l ad cA w) H) (hD : va_D A (za_l ad cA w)) (hS : va_S A H0 H locs) (hA : ∀ q, H0.size ≤ q → A q) (hx0 : ¬ x < 0) (hx1 : x.toNatClampNeg ≤ 60000000) (hcells : cells + 1 ≤ R.cells) (hslots : slots + x.toNatClampNeg ≤ R.slots) (hd : decode cc pc = .ok (.newarray a, 2))
    (kk : ∀ (q : Nat) (H1 : Heap), va_P D vwCl (za_l ad cA w ++ [(q, za_e ad cA (za_na t x.toNatClampNeg))]) H1 → va_D A (za_l ad cA w ++ [(q, za_e ad cA (za_na t x.toNatClampNeg))]) → va_S A H0 H1 locs → W p L e R s m args below meth c H1 locs (cells + 1) (slots + x.toNatClampNeg) Q (F0 m (pc + 2) ls (.ref q :: rest))) : W p L e R s m args below meth c H locs cells slots Q (F0 m pc ls (.int x :: rest)) := by
  have key : ∀ (ty : FieldType) (a0 : vp_A), newarray.typeOf a = ty → zt_ty[t]? = some ty → Cond.arrayClass ty ∈ za_tg → (∀ cB : ClassId, vp_cell cB a0 = arrV cB x.toNatClampNeg (fun _ => defaultValue ty)) → x.toNatClampNeg * componentBytes ty ≤ 536870912 → za_e ad cA (za_na t x.toNatClampNeg) = .inl (cA t, a0) → W p L e R s m args below meth c H locs cells slots Q (F0 m pc ls (.int x :: rest)) := by
    intro ty a0 h1 h2 h3 h4 h5 h6
    refine va_newa hx hb (by rw [h1]; exact hts _ h3) h1 hK hP hD hS hA h4 hx0 rfl h5 hcells hslots hd (fun q cB H1 hK1 hP1 hD1 hS1 => ?_)
    have e1 : cB = cA t := by
      have g1 := (hK1.2 _ _ (za_last (za_t cA) (cB, ty))).2
      exact za_cls g1 (hK.2 t _ (za_t.at cA h2)).2
    subst e1
    rw [h6] at kk
    exact kk q H1 hP1 hD1 hS1
  cases a <;> first
    | (cases ht; exact key .byte (_, .inl fun _ => 0) rfl rfl zw_abc (fun cB => by rw [vp_cell_i]; rfl) (by show _ * 1 ≤ _; omega) rfl)
    | (cases ht; exact key .int (_, .inl fun _ => 0) rfl rfl zw_aic (fun cB => by rw [vp_cell_i]; rfl) (by show _ * 4 ≤ _; omega) rfl)
    | (cases ht; exact key .long (_, .inr (.inl fun _ => 0)) rfl rfl zw_alc (fun cB => by rw [vp_cell_l]; rfl) (by show _ * 8 ≤ _; omega) rfl)
    | (cases ht; exact key .boolean (_, .inl fun _ => 0) rfl rfl zw_azc (fun cB => by rw [vp_cell_i]; rfl) (by show _ * 1 ≤ _; omega) rfl)
    | cases ht
theorem za_newq {j ci t : Nat} {x : Int32} (hci : za_nw (za_ow me) j = some ci) (hkq : za_kq ci = some t) (hx : p.tables.exec = Jvm.exec) (hb : c.code = cc) (hown : s.vm.findClass (za_rn (za_ow me)) = some m.cls) (hts : ∀ w ∈ za_tg, w.before args s = true) (hnw : ∀ w ∈ za_nl, va_Nw w s) (hK : va_K D vwCl (za_t cA) s) (hP : va_P D vwCl (za_l ad cA w) H) (hD : va_D A (za_l ad cA w)) (hS : va_S A H0 H locs) (hA : ∀ q, H0.size ≤ q → A q) (hx0 : ¬ x < 0) (hx1 : x.toNatClampNeg ≤ 60000000) (hcells : cells + 1 ≤ R.cells) (hslots : slots + x.toNatClampNeg ≤ R.slots) (hd : decode cc pc = .ok (.anewarray j, 3))
    (kk : ∀ (q : Nat) (H1 : Heap), va_P D vwCl (za_l ad cA w ++ [(q, za_e ad cA (.inl (t, x.toNatClampNeg, .inr (.inr (.inr (.inr fun _ => none))))))]) H1 → va_D A (za_l ad cA w ++ [(q, za_e ad cA (.inl (t, x.toNatClampNeg, .inr (.inr (.inr (.inr fun _ => none))))))]) → va_S A H0 H1 locs → W p L e R s m args below meth c H1 locs (cells + 1) (slots + x.toNatClampNeg) Q (F0 m (pc + 3) ls (.ref q :: rest))) : W p L e R s m args below meth c H locs cells slots Q (F0 m pc ls (.int x :: rest)) := by
  obtain ⟨cl, h1, h2, h3, h4, h5⟩ := zt_nw_of hci
  obtain ⟨cl2, g1, g2⟩ := za_kq.of hkq
  have e0 : cl = cl2 := Option.some.inj (h1.symm.trans g1)
  subst e0
  have e4 : t = 4 := by
    unfold za_kq at hkq
    split at hkq
    · cases hkq; rfl
    · cases hkq
  subst e4
  rw [g2] at h2
  refine va_newq hx hb hown (hts _ h2) (hnw _ zw_ao) hK hP hD hS hA hx0 rfl (by omega) hcells hslots hd (fun q cB H1 hK1 hP1 hD1 hS1 => ?_)
  have e1 : cB = cA 4 := za_cls (hK1.2 _ _ (za_last (za_t cA) (cB, .object "SortPacks$Codes"))).2 (hK.2 4 _ (za_t.at cA rfl)).2
  subst e1
  exact kk q H1 hP1 hD1 hS1
theorem za_thr {a k n : Nat} {l : za_L} {st : List Value} (hx : p.tables.exec = Jvm.exec) (hb : c.code = cc) (hex : c.exceptionTable.toList = []) (hlk : meth.locks = false) (hag : ∀ k, k < w0.1 → ad k = ad0 k) (I : za_I D cA A s.heap H locs ls (za_mx me) ad l (.ref a :: st) w) (hd : decode cc pc = .ok (.athrow, 1)) : W p L e R s m args below meth c H locs k n (za_MQ below (za_Q D cA A ad0 w0 (.inr a) w) args s k n A) (F0 m pc ls (.ref (ad a) :: rest)) := by
  intro T hT X
  obtain ⟨h1, h2, h3, h4, h5⟩ := X.athrowLeaves hx (g := F0 m pc ls (.ref (ad a) :: rest)) rfl rfl rfl (by rw [hex]; intro x hx; cases hx) rfl (by rw [hb]; exact hd) hlk
  exact ⟨_, h1, .threw (ad a), h2, h3, ⟨⟨ad, hag, rfl, by rw [show (T.setFrames (.throwing (ad a) :: below)).heap = H from hT]; exact I.P, I.dd, I.W, (fun y hy => by cases hy), (fun y hy => by cases hy; exact (zk_hd I.2.2.2.2.2.2.1 : za_k w.1 (.ref a)))⟩, I.S.F (show (T.setFrames (.throwing (ad a) :: below)).heap = H from hT)⟩, locs, ⟨h4, h5⟩, I.S.2.2⟩
end ZR
section ZU
variable {p : Program} {L : Launch} {e : Env} {R : Room} {s : State} {m : MethodId} {args : Array Value} {below : List Frame} {meth : Method} {c : Code} {me : Nat} {D : va_G} {cA : Nat → ClassId} {A : Nat → Prop} {ad0 : Nat → Nat} {w0 wz : za_W} {v : za_O} {X : za_S → Prop} {Y : za_Y}
set_option maxHeartbeats 4000000 in
/-- one step, calls apart (they are handed over) -/
theorem za_step {pc : Nat} {l : za_L} {st : List Value} {w : za_W} (F : za_F me D cA p R s m args meth c w0 wz A) (hX : ∀ s', X s' → za_Z p L e R s m args below meth c me D cA A ad0 w0 wz v s'.1 s'.2.1 s'.2.2.1 s'.2.2.2) {i : Instr} {n : Nat} (hd : decode (za_cc me) pc = .ok (i, n)) (hn : za_lk1 i n = true) (h : za_d me Y (fun o' w' => o' = v ∧ w' = wz) X (za_x me i pc l st w))
    (hcall : (∃ j, i = .invokevirtual j ∨ i = .invokestatic j ∨ i = .invokespecial j) → za_Z p L e R s m args below meth c me D cA A ad0 w0 wz v pc l st w) : za_Z p L e R s m args below meth c me D cA A ad0 w0 wz v pc l st w := by
  obtain ⟨hx, hb, hml, hown, hts, hr, hlk, hK, hnw, hex, him, hRf, hRl, hRc, hRs, hZ⟩ := F
  have h0 : za_d me Y (fun o' w' => o' = v ∧ w' = wz) X none → False := fun h => h
  cases i
  case iconst j =>
    obtain rfl : n = 1 := beq_iff_eq.mp hn
    exact za_Z.st (hX _ h) (fun _ hl k => zk_mk trivial k) (fun ad H locs ls cells slots I k => lv_iconst hx hb hd rfl k)
  case bipush j =>
    obtain rfl : n = 2 := beq_iff_eq.mp hn
    exact za_Z.st (hX _ h) (fun _ hl k => zk_mk trivial k) (fun ad H locs ls cells slots I k => lv_bipush hx hb hd rfl k)
  case sipush j =>
    obtain rfl : n = 3 := beq_iff_eq.mp hn
    exact za_Z.st (hX _ h) (fun _ hl k => zk_mk trivial k) (fun ad H locs ls cells slots I k => lv_sipush hx hb hd rfl k)
  case lconst j =>
    obtain rfl : n = 1 := beq_iff_eq.mp hn
    exact za_Z.st (hX _ h) (fun _ hl k => zk_mk trivial k) (fun ad H locs ls cells slots I k => lv_lconst hx hb hd rfl k)
  case aconst_null =>
    obtain rfl : n = 1 := beq_iff_eq.mp hn
    exact za_Z.st (hX _ h) (fun _ hl k => zk_mk trivial k) (fun ad H locs ls cells slots I k => lv_null hx hb hd k)
  case ldc j =>
    obtain rfl : n = 2 := beq_iff_eq.mp hn
    have h9 := za_ov.iv h0 h
    clear h
    obtain ⟨u, hu, h⟩ := h9
    exact za_Z.st (hX _ h) (fun _ hl k => zk_mk trivial k) (fun ad H locs ls cells slots I k => lv_ldc hx hb hown (hts _ (zt_ki_of hu)) hd k)
  case ldc2_w j =>
    obtain rfl : n = 3 := beq_iff_eq.mp hn
    have h9 := za_ov.iv h0 h
    clear h
    obtain ⟨u, hu, h⟩ := h9
    exact za_Z.st (hX _ h) (fun _ hl k => zk_mk trivial k) (fun ad H locs ls cells slots I k => lv_ldc2 hx hb hown (hts _ (zt_kl_of hu)) hd k)
  case iload_n j =>
    obtain rfl : n = 1 := beq_iff_eq.mp hn
    have h9 := za_oi.iv h0 h
    clear h
    obtain ⟨u, hu, h⟩ := h9
    exact za_Z.st (hX _ h) (fun _ hl k => zk_mk trivial k) (fun ad H locs ls cells slots I k => lv_iload_n hx hb hd rfl (I.at hu) k)
  case iload j =>
    obtain rfl : n = 2 := beq_iff_eq.mp hn
    have h9 := za_oi.iv h0 h
    clear h
    obtain ⟨u, hu, h⟩ := h9
    exact za_Z.st (hX _ h) (fun _ hl k => zk_mk trivial k) (fun ad H locs ls cells slots I k => lv_iload hx hb hd (I.at hu) k)
  case lload_n j =>
    obtain rfl : n = 1 := beq_iff_eq.mp hn
    have h9 := za_ol.iv h0 h
    clear h
    obtain ⟨u, hu, h⟩ := h9
    exact za_Z.st (hX _ h) (fun _ hl k => zk_mk trivial k) (fun ad H locs ls cells slots I k => lv_lload_n hx hb hd rfl (I.at hu) k)
  case lload j =>
    obtain rfl : n = 2 := beq_iff_eq.mp hn
    have h9 := za_ol.iv h0 h
    clear h
    obtain ⟨u, hu, h⟩ := h9
    exact za_Z.st (hX _ h) (fun _ hl k => zk_mk trivial k) (fun ad H locs ls cells slots I k => lv_lload hx hb hd (I.at hu) k)
  case aload_n j =>
    obtain rfl : n = 1 := beq_iff_eq.mp hn
    have h9 := za_or.iv h0 h
    clear h
    obtain ⟨u, hu, h⟩ := h9
    exact za_Z.st (hX _ h) (fun _ hl k => zk_mk (za_ld.k hl hu) k) (fun ad H locs ls cells slots I k => lv_aload_n hx hb hd rfl (I.at hu) k)
  case aload j =>
    obtain rfl : n = 2 := beq_iff_eq.mp hn
    have h9 := za_or.iv h0 h
    clear h
    obtain ⟨u, hu, h⟩ := h9
    exact za_Z.st (hX _ h) (fun _ hl k => zk_mk (za_ld.k hl hu) k) (fun ad H locs ls cells slots I k => lv_aload hx hb hd (I.at hu) k)
  case istore_n j =>
    obtain rfl : n = 1 := beq_iff_eq.mp hn
    have h9 := za_if.iv h0 h
    clear h
    obtain ⟨hj, h⟩ := h9
    have h9 := za_p1i.iv h0 h
    clear h
    obtain ⟨u, r, rfl, h⟩ := h9
    exact za_Z.lo (hX _ h) (fun hl hs => ⟨zk_tl hs, za_s1.k hl trivial⟩) (fun ad H locs ls cells slots I kk => lv_istore_n hx hb hd rfl I.lv hj (za_s1.map ad l j (.int u)) kk)
  case istore j =>
    obtain rfl : n = 2 := beq_iff_eq.mp hn
    have h9 := za_if.iv h0 h
    clear h
    obtain ⟨hj, h⟩ := h9
    have h9 := za_p1i.iv h0 h
    clear h
    obtain ⟨u, r, rfl, h⟩ := h9
    exact za_Z.lo (hX _ h) (fun hl hs => ⟨zk_tl hs, za_s1.k hl trivial⟩) (fun ad H locs ls cells slots I kk => lv_istore hx hb hd I.lv hj (za_s1.map ad l j (.int u)) kk)
  case lstore_n j =>
    obtain rfl : n = 1 := beq_iff_eq.mp hn
    have h9 := za_if.iv h0 h
    clear h
    obtain ⟨hj, h⟩ := h9
    have h9 := za_p1l.iv h0 h
    clear h
    obtain ⟨u, r, rfl, h⟩ := h9
    exact za_Z.lo (hX _ h) (fun hl hs => ⟨zk_tl hs, za_s2.k hl trivial⟩) (fun ad H locs ls cells slots I kk => lv_lstore_n hx hb hd rfl I.lv hj (za_s2.map ad l j (.long u)) kk)
  case lstore j =>
    obtain rfl : n = 2 := beq_iff_eq.mp hn
    have h9 := za_if.iv h0 h
    clear h
    obtain ⟨hj, h⟩ := h9
    have h9 := za_p1l.iv h0 h
    clear h
    obtain ⟨u, r, rfl, h⟩ := h9
    exact za_Z.lo (hX _ h) (fun hl hs => ⟨zk_tl hs, za_s2.k hl trivial⟩) (fun ad H locs ls cells slots I kk => lv_lstore hx hb hd I.lv hj (za_s2.map ad l j (.long u)) kk)
  case astore_n j =>
    obtain rfl : n = 1 := beq_iff_eq.mp hn
    have h9 := za_if.iv h0 h
    clear h
    obtain ⟨hj, h⟩ := h9
    have h9 := za_p1r.iv h0 h
    clear h
    obtain ⟨u, r, rfl, h⟩ := h9
    exact za_Z.lo (hX _ h) (fun hl hs => ⟨zk_tl hs, za_s1.k hl (zk_hd hs)⟩) (fun ad H locs ls cells slots I kk => lv_astore_n hx hb hd rfl I.lv hj (za_s1.map ad l j (.ref u)) kk)
  case iinc j a =>
    obtain rfl : n = 3 := beq_iff_eq.mp hn
    have h9 := za_if.iv h0 h
    clear h
    obtain ⟨hj, h⟩ := h9
    have h9 := za_oi.iv h0 h
    clear h
    obtain ⟨u, hu, h⟩ := h9
    exact za_Z.lo (hX _ h) (fun hl hs => ⟨hs, za_s1.k hl trivial⟩) (fun ad H locs ls cells slots I kk => by
      obtain ⟨k9, hk9⟩ := List.getElem?_of_mem (List.mem_map.mpr ⟨(j, .int u), za_ld.mem hu, rfl⟩ : (j, Value.int u) ∈ l.map fun q => (q.1, za_v ad q.2))
      exact lv_iinc hx hb hd I.lv hk9 rfl hj (za_s1.map ad l j (.int (u + Int32.ofInt a))) kk)
  case iadd =>
    obtain rfl : n = 1 := beq_iff_eq.mp hn
    have h9 := za_p2i.iv h0 h
    clear h
    obtain ⟨x, y, r, rfl, h⟩ := h9
    exact za_Z.st (hX _ h) (fun _ hl k => zk_mk trivial (zk_tl (zk_tl k))) (fun ad H locs ls cells slots I k => lv_iadd hx hb hd k)
  case isub =>
    obtain rfl : n = 1 := beq_iff_eq.mp hn
    have h9 := za_p2i.iv h0 h
    clear h
    obtain ⟨x, y, r, rfl, h⟩ := h9
    exact za_Z.st (hX _ h) (fun _ hl k => zk_mk trivial (zk_tl (zk_tl k))) (fun ad H locs ls cells slots I k => lv_isub hx hb hd k)
  case imul =>
    obtain rfl : n = 1 := beq_iff_eq.mp hn
    have h9 := za_p2i.iv h0 h
    clear h
    obtain ⟨x, y, r, rfl, h⟩ := h9
    exact za_Z.st (hX _ h) (fun _ hl k => zk_mk trivial (zk_tl (zk_tl k))) (fun ad H locs ls cells slots I k => lv_imul hx hb hd k)
  case iand =>
    obtain rfl : n = 1 := beq_iff_eq.mp hn
    have h9 := za_p2i.iv h0 h
    clear h
    obtain ⟨x, y, r, rfl, h⟩ := h9
    exact za_Z.st (hX _ h) (fun _ hl k => zk_mk trivial (zk_tl (zk_tl k))) (fun ad H locs ls cells slots I k => lv_iand hx hb hd k)
  case ior =>
    obtain rfl : n = 1 := beq_iff_eq.mp hn
    have h9 := za_p2i.iv h0 h
    clear h
    obtain ⟨x, y, r, rfl, h⟩ := h9
    exact za_Z.st (hX _ h) (fun _ hl k => zk_mk trivial (zk_tl (zk_tl k))) (fun ad H locs ls cells slots I k => lv_ior hx hb hd k)
  case ixor =>
    obtain rfl : n = 1 := beq_iff_eq.mp hn
    have h9 := za_p2i.iv h0 h
    clear h
    obtain ⟨x, y, r, rfl, h⟩ := h9
    exact za_Z.st (hX _ h) (fun _ hl k => zk_mk trivial (zk_tl (zk_tl k))) (fun ad H locs ls cells slots I k => lv_ixor hx hb hd k)
  case ishl =>
    obtain rfl : n = 1 := beq_iff_eq.mp hn
    have h9 := za_p2i.iv h0 h
    clear h
    obtain ⟨x, y, r, rfl, h⟩ := h9
    exact za_Z.st (hX _ h) (fun _ hl k => zk_mk trivial (zk_tl (zk_tl k))) (fun ad H locs ls cells slots I k => lv_ishl hx hb hd k)
  case ishr =>
    obtain rfl : n = 1 := beq_iff_eq.mp hn
    have h9 := za_p2i.iv h0 h
    clear h
    obtain ⟨x, y, r, rfl, h⟩ := h9
    exact za_Z.st (hX _ h) (fun _ hl k => zk_mk trivial (zk_tl (zk_tl k))) (fun ad H locs ls cells slots I k => lv_ishr hx hb hd k)
  case iushr =>
    obtain rfl : n = 1 := beq_iff_eq.mp hn
    have h9 := za_p2i.iv h0 h
    clear h
    obtain ⟨x, y, r, rfl, h⟩ := h9
    exact za_Z.st (hX _ h) (fun _ hl k => zk_mk trivial (zk_tl (zk_tl k))) (fun ad H locs ls cells slots I k => lv_iushr hx hb hd rfl k)
  case idiv =>
    obtain rfl : n = 1 := beq_iff_eq.mp hn
    have h9 := za_p2i.iv h0 h
    clear h
    obtain ⟨x, y, r, rfl, h⟩ := h9
    have h9 := za_if.iv h0 h
    clear h
    obtain ⟨hy, h⟩ := h9
    exact za_Z.st (hX _ h) (fun _ hl k => zk_mk trivial (zk_tl (zk_tl k))) (fun ad H locs ls cells slots I k => lv_idiv hx hb hd hy k)
  case irem =>
    obtain rfl : n = 1 := beq_iff_eq.mp hn
    have h9 := za_p2i.iv h0 h
    clear h
    obtain ⟨x, y, r, rfl, h⟩ := h9
    have h9 := za_if.iv h0 h
    clear h
    obtain ⟨hy, h⟩ := h9
    exact za_Z.st (hX _ h) (fun _ hl k => zk_mk trivial (zk_tl (zk_tl k))) (fun ad H locs ls cells slots I k => lv_irem hx hb hd hy k)
  case ladd =>
    obtain rfl : n = 1 := beq_iff_eq.mp hn
    have h9 := za_p2l.iv h0 h
    clear h
    obtain ⟨x, y, r, rfl, h⟩ := h9
    exact za_Z.st (hX _ h) (fun _ hl k => zk_mk trivial (zk_tl (zk_tl k))) (fun ad H locs ls cells slots I k => lv_ladd hx hb hd k)
  case land =>
    obtain rfl : n = 1 := beq_iff_eq.mp hn
    have h9 := za_p2l.iv h0 h
    clear h
    obtain ⟨x, y, r, rfl, h⟩ := h9
    exact za_Z.st (hX _ h) (fun _ hl k => zk_mk trivial (zk_tl (zk_tl k))) (fun ad H locs ls cells slots I k => lv_land hx hb hd k)
  case lor =>
    obtain rfl : n = 1 := beq_iff_eq.mp hn
    have h9 := za_p2l.iv h0 h
    clear h
    obtain ⟨x, y, r, rfl, h⟩ := h9
    exact za_Z.st (hX _ h) (fun _ hl k => zk_mk trivial (zk_tl (zk_tl k))) (fun ad H locs ls cells slots I k => lv_lor hx hb hd k)
  case ldiv =>
    obtain rfl : n = 1 := beq_iff_eq.mp hn
    have h9 := za_p2l.iv h0 h
    clear h
    obtain ⟨x, y, r, rfl, h⟩ := h9
    have h9 := za_if.iv h0 h
    clear h
    obtain ⟨hy, h⟩ := h9
    exact za_Z.st (hX _ h) (fun _ hl k => zk_mk trivial (zk_tl (zk_tl k))) (fun ad H locs ls cells slots I k => lv_ldiv hx hb hd hy k)
  case lshl =>
    obtain rfl : n = 1 := beq_iff_eq.mp hn
    have h9 := za_pil.iv h0 h
    clear h
    obtain ⟨x, y, r, rfl, h⟩ := h9
    exact za_Z.st (hX _ h) (fun _ hl k => zk_mk trivial (zk_tl (zk_tl k))) (fun ad H locs ls cells slots I k => lv_lshl hx hb hd rfl k)
  case lshr =>
    obtain rfl : n = 1 := beq_iff_eq.mp hn
    have h9 := za_pil.iv h0 h
    clear h
    obtain ⟨x, y, r, rfl, h⟩ := h9
    exact za_Z.st (hX _ h) (fun _ hl k => zk_mk trivial (zk_tl (zk_tl k))) (fun ad H locs ls cells slots I k => lv_lshr hx hb hd rfl k)
  case lushr =>
    obtain rfl : n = 1 := beq_iff_eq.mp hn
    have h9 := za_pil.iv h0 h
    clear h
    obtain ⟨x, y, r, rfl, h⟩ := h9
    exact za_Z.st (hX _ h) (fun _ hl k => zk_mk trivial (zk_tl (zk_tl k))) (fun ad H locs ls cells slots I k => lv_lushr hx hb hd rfl k)
  case lcmp =>
    obtain rfl : n = 1 := beq_iff_eq.mp hn
    have h9 := za_p2l.iv h0 h
    clear h
    obtain ⟨x, y, r, rfl, h⟩ := h9
    exact za_Z.st (hX _ h) (fun _ hl k => zk_mk trivial (zk_tl (zk_tl k))) (fun ad H locs ls cells slots I k => W.lcmp hx hb hd k)
  case i2l =>
    obtain rfl : n = 1 := beq_iff_eq.mp hn
    have h9 := za_p1i.iv h0 h
    clear h
    obtain ⟨x, r, rfl, h⟩ := h9
    exact za_Z.st (hX _ h) (fun _ hl k => zk_mk trivial (zk_tl k)) (fun ad H locs ls cells slots I k => lv_i2l hx hb hd rfl k)
  case l2i =>
    obtain rfl : n = 1 := beq_iff_eq.mp hn
    have h9 := za_p1l.iv h0 h
    clear h
    obtain ⟨x, r, rfl, h⟩ := h9
    exact za_Z.st (hX _ h) (fun _ hl k => zk_mk trivial (zk_tl k)) (fun ad H locs ls cells slots I k => lv_l2i hx hb hd rfl k)
  case i2b =>
    obtain rfl : n = 1 := beq_iff_eq.mp hn
    have h9 := za_p1i.iv h0 h
    clear h
    obtain ⟨x, r, rfl, h⟩ := h9
    exact za_Z.st (hX _ h) (fun _ hl k => zk_mk trivial (zk_tl k)) (fun ad H locs ls cells slots I k => lv_i2b hx hb hd rfl k)
  case dup =>
    obtain rfl : n = 1 := beq_iff_eq.mp hn
    have h9 := za_p1.iv h0 h
    clear h
    obtain ⟨x, r, rfl, h⟩ := h9
    have h9 := za_if.iv h0 h
    clear h
    obtain ⟨hc, h⟩ := h9
    exact za_Z.st (hX _ h) (fun _ hl k => zk_mk (zk_hd k) k) (fun ad H locs ls cells slots I k => lv_dup hx hb hd ((za_v.cat ad x).trans hc) k)
  case pop =>
    obtain rfl : n = 1 := beq_iff_eq.mp hn
    have h9 := za_p1.iv h0 h
    clear h
    obtain ⟨x, r, rfl, h⟩ := h9
    have h9 := za_if.iv h0 h
    clear h
    obtain ⟨hc, h⟩ := h9
    exact za_Z.st (hX _ h) (fun _ hl k => zk_tl k) (fun ad H locs ls cells slots I k => lv_pop hx hb hd ((za_v.cat ad x).trans hc) k)
  case dup2 =>
    obtain rfl : n = 1 := beq_iff_eq.mp hn
    have h9 := za_p2.iv h0 h
    clear h
    obtain ⟨x, y, r, rfl, h⟩ := h9
    have h9 := za_if.iv h0 h
    clear h
    obtain ⟨hc, h⟩ := h9
    exact za_Z.st (hX _ h) (fun _ hl k => zk_mk (zk_hd k) (zk_mk (zk_hd (zk_tl k)) k)) (fun ad H locs ls cells slots I k => lv_dup2_11 hx hb hd ((za_v.cat ad y).trans hc.2) ((za_v.cat ad x).trans hc.1) k)
  case goto off =>
    obtain rfl : n = 3 := beq_iff_eq.mp hn
    have h9 := za_if.iv h0 h
    clear h
    obtain ⟨h1, h⟩ := h9
    exact za_Z.st (hX _ h) (fun _ hl k => k) (fun ad H locs ls cells slots I k => lv_goto hx hb hd (Int.toNat_of_nonneg h1).symm k)
  case ifCond k9 off =>
    obtain rfl : n = 3 := beq_iff_eq.mp hn
    have h9 := za_p1i.iv h0 h
    clear h
    obtain ⟨x, r, rfl, h⟩ := h9
    cases k9
    · exact za_Z.br hX h (fun k => zk_tl k) (fun ad H locs ls cells slots tgt ht kt kf => lv_if_eq hx hb hd ht kt kf)
    · exact za_Z.br hX h (fun k => zk_tl k) (fun ad H locs ls cells slots tgt ht kt kf => lv_if_ne hx hb hd ht kt (fun h9 => kf (fun n9 => n9 h9)))
    · exact za_Z.br hX h (fun k => zk_tl k) (fun ad H locs ls cells slots tgt ht kt kf => lv_if_lt hx hb hd ht kt kf)
    · exact za_Z.br hX h (fun k => zk_tl k) (fun ad H locs ls cells slots tgt ht kt kf => lv_if_ge hx hb hd ht kt kf)
    · exact za_Z.br hX h (fun k => zk_tl k) (fun ad H locs ls cells slots tgt ht kt kf => lv_if_gt hx hb hd ht kt kf)
    · exact za_Z.br hX h (fun k => zk_tl k) (fun ad H locs ls cells slots tgt ht kt kf => lv_if_le hx hb hd ht kt kf)
  case if_icmp k9 off =>
    obtain rfl : n = 3 := beq_iff_eq.mp hn
    have h9 := za_p2i.iv h0 h
    clear h
    obtain ⟨x, y, r, rfl, h⟩ := h9
    cases k9
    · exact za_Z.br hX h (fun k => zk_tl (zk_tl k)) (fun ad H locs ls cells slots tgt ht kt kf => lv_icmp_eq hx hb hd ht kt kf)
    · exact za_Z.br hX h (fun k => zk_tl (zk_tl k)) (fun ad H locs ls cells slots tgt ht kt kf => lv_icmp_ne hx hb hd ht kt (fun h9 => kf (fun n9 => n9 h9)))
    · exact za_Z.br hX h (fun k => zk_tl (zk_tl k)) (fun ad H locs ls cells slots tgt ht kt kf => lv_icmp_lt hx hb hd ht kt kf)
    · exact za_Z.br hX h (fun k => zk_tl (zk_tl k)) (fun ad H locs ls cells slots tgt ht kt kf => lv_icmp_ge hx hb hd ht kt kf)
    · exact za_Z.br hX h (fun k => zk_tl (zk_tl k)) (fun ad H locs ls cells slots tgt ht kt kf => lv_icmp_gt hx hb hd ht kt kf)
    · exact za_Z.br hX h (fun k => zk_tl (zk_tl k)) (fun ad H locs ls cells slots tgt ht kt kf => lv_icmp_le hx hb hd ht kt kf)
  case tableswitch dflt lo hi offs =>
    have h9 := za_p1i.iv h0 h
    clear h
    obtain ⟨x, r, rfl, h⟩ := h9
    by_cases hc : x.toInt < lo ∨ hi < x.toInt
    · rw [if_pos hc] at h
      have h9 := za_if.iv h0 h
      clear h
      obtain ⟨h1, h⟩ := h9
      exact za_Z.st (hX _ h) (fun _ hl k => zk_tl k) (fun ad H locs ls cells slots I k => lv_tableOut hx hb hd hc (Int.toNat_of_nonneg h1).symm k)
    · rw [if_neg hc] at h
      have h9 := za_ov.iv h0 h
      clear h
      obtain ⟨off, ho, h⟩ := h9
      have h9 := za_if.iv h0 h
      clear h
      obtain ⟨h1, h⟩ := h9
      exact za_Z.st (hX _ h) (fun _ hl k => zk_tl k) (fun ad H locs ls cells slots I k => lv_tableIn hx hb hd (fun q => hc (Or.inl q)) (fun q => hc (Or.inr q)) ho (Int.toNat_of_nonneg h1).symm k)
  case getfield j =>
    obtain rfl : n = 3 := beq_iff_eq.mp hn
    have h9 := za_p1r.iv h0 h
    clear h
    obtain ⟨a, r, rfl, h⟩ := h9
    have h9 := za_ov.iv h0 h
    clear h
    obtain ⟨q, hq, h⟩ := h9
    have h9 := za_ob.iv h0 h
    clear h
    obtain ⟨ci, fs, hc, h⟩ := h9
    have h9 := za_if.iv h0 h
    clear h
    obtain ⟨rfl, h⟩ := h9
    have h9 := za_ov.iv h0 h
    clear h
    obtain ⟨u, hu, h⟩ := h9
    obtain ⟨cl, h1, h2, h3, h4⟩ := zt_f_of hq
    refine za_Z.st (hX _ h) (fun kw hl k => zk_mk ((kw a _ hc).2 u (List.mem_of_getElem? hu)) (zk_tl k)) (fun ad H locs ls cells slots I k => ?_)
    have hfs : (fs.map (za_v ad))[q.2]? = some (za_v ad u) := by rw [List.getElem?_map, hu]; rfl
    rcases h4 with h4 | ⟨host, h4⟩
    · exact va_get (C := cl.1) (T := cl.2.1) (N := cl.2.2) (ref := cl.1) hx hb hts (zt_us h1) hown hK I.P a (za_l.at I.W hc) h1 q.2 h2 (hts _ h4) (fun _ h9 => by rw [h3] at h9; exact h9) hfs hd k
    · exact va_getN (C := cl.1) (T := cl.2.1) (N := cl.2.2) (ref := cl.1) hx hb hts (zt_us h1) hown hK I.P a (za_l.at I.W hc) h1 q.2 h2 (va_Nw.use rfl (hnw _ h4)) (fun _ h9 => by rw [h3] at h9; exact h9) hfs hd k
  case putfield j =>
    obtain rfl : n = 3 := beq_iff_eq.mp hn
    have h9 := za_pvr.iv h0 h
    clear h
    obtain ⟨a, u, r, rfl, h⟩ := h9
    have h9 := za_ov.iv h0 h
    clear h
    obtain ⟨q, hq, h⟩ := h9
    have h9 := za_ob.iv h0 h
    clear h
    obtain ⟨ci, fs, hc, h⟩ := h9
    have h9 := za_if.iv h0 h
    clear h
    obtain ⟨⟨rfl, hlen, hfit, hfin⟩, h⟩ := h9
    obtain ⟨cl, h1, h2, h3, h4⟩ := zt_f_of hq
    obtain ⟨t1, t2, t3, t4, t5, t6⟩ := zt_tys h1 q.2 h2
    refine za_Z.ch (hX _ h) (fun kw k => ⟨zk_tl (zk_tl k), (kw a _ hc).1, fun x hx => ?_⟩) (fun ad H locs ls cells slots I kk => ?_)
    · rcases List.mem_or_eq_of_mem_set hx with hx | rfl
      · exact (kw a _ hc).2 x hx
      · exact zk_hd k
    have e1 : za_e ad cA (.inr (q.1, fs.set q.2 u)) = .inr (q.1, (fs.map (za_v ad)).set q.2 (za_v ad u)) := by
      show (Sum.inr (q.1, (fs.set q.2 u).map (za_v ad)) : va_E) = _
      rw [List.map_set]
    rw [e1] at kk
    obtain ⟨f1, f2⟩ := za_fit t3 t4 t5 hfit ad
    have hlen' : q.2 < (fs.map (za_v ad)).length := by rw [List.length_map]; exact hlen
    have hty : ∀ k, k < cl.2.2 → parseFieldDescriptor (cl.2.1 k).2.2.1 = some (za_ft q.1 k) := fun k hk => (zt_tys h1 k hk).1
    by_cases hf : za_fi q.1 q.2 = true
    · obtain ⟨g1, g2, g3⟩ := hfin hf
      have h4 := zt_f_pl hq g3 h1
      have hdecl : (cl.2.1 q.2).1 = za_rn (za_ow me) := by rw [h3, ← g2]; exact zt_rn_of h1
      exact va_putF (C := cl.1) (T := cl.2.1) (N := cl.2.2) (ref := cl.1) hx hb hts (zt_us h1) (za_ft q.1) hty (zt_nms h1) hown hK I.P I.dd I.S a (za_l.at I.W hc) h1 q.2 h2 (hts _ h4) (fun _ h9 => by rw [h3] at h9; exact h9) (t6.trans hf) (him g1) hdecl t1 f1 f2 hlen' hd kk
    · have hf : (cl.2.1 q.2).2.2.2 = false := t6.trans (Bool.eq_false_iff.mpr hf)
      rcases h4 with h4 | ⟨host, h4⟩
      · exact va_put (C := cl.1) (T := cl.2.1) (N := cl.2.2) (ref := cl.1) hx hb hts (zt_us h1) (za_ft q.1) hty (zt_nms h1) hown hK I.P I.dd I.S a (za_l.at I.W hc) h1 q.2 h2 (hts _ h4) (fun _ h9 => by rw [h3] at h9; exact h9) hf t1 f1 f2 hlen' hd kk
      · exact va_putN (C := cl.1) (T := cl.2.1) (N := cl.2.2) (ref := cl.1) hx hb hts (zt_us h1) (za_ft q.1) hty (zt_nms h1) hown hK I.P I.dd I.S a (za_l.at I.W hc) h1 q.2 h2 (va_Nw.use rfl (hnw _ h4)) (fun _ h9 => by rw [h3] at h9; exact h9) hf t1 f1 f2 hlen' hd kk
  case arraylength =>
    obtain rfl : n = 1 := beq_iff_eq.mp hn
    have h9 := za_p1r.iv h0 h
    clear h
    obtain ⟨a, r, rfl, h⟩ := h9
    have h9 := za_ar.iv h0 h
    clear h
    obtain ⟨t, x, hc, h⟩ := h9
    have h9 := za_if.iv h0 h
    clear h
    obtain ⟨ht, h⟩ := h9
    refine za_Z.st (hX _ h) (fun kw hl k => zk_mk trivial (zk_tl k)) (fun ad H locs ls cells slots I k => ?_)
    exact za_len hx hb hK I.P I.W hc ht hd k
  case iaload =>
    obtain rfl : n = 1 := beq_iff_eq.mp hn
    have h9 := za_pir.iv h0 h
    clear h
    obtain ⟨a, i, r, rfl, h⟩ := h9
    have h9 := za_ai.iv h0 h
    clear h
    obtain ⟨t, k9, g, hc, h⟩ := h9
    have h9 := za_if.iv h0 h
    clear h
    obtain ⟨rfl, h⟩ := h9
    have h9 := za_ix.iv h0 h
    clear h
    obtain ⟨hin, h⟩ := h9
    exact za_Z.st (hX _ h) (fun kw hl k => zk_mk trivial (zk_tl (zk_tl k))) (fun ad H locs ls cells slots I k => va_iald hx hb hK I.P a 1 (za_l.at I.W hc) (za_t.at cA rfl) hin hd k)
  case laload =>
    obtain rfl : n = 1 := beq_iff_eq.mp hn
    have h9 := za_pir.iv h0 h
    clear h
    obtain ⟨a, i, r, rfl, h⟩ := h9
    have h9 := za_al.iv h0 h
    clear h
    obtain ⟨t, k9, g, hc, h⟩ := h9
    have h9 := za_if.iv h0 h
    clear h
    obtain ⟨rfl, h⟩ := h9
    have h9 := za_ix.iv h0 h
    clear h
    obtain ⟨hin, h⟩ := h9
    exact za_Z.st (hX _ h) (fun kw hl k => zk_mk trivial (zk_tl (zk_tl k))) (fun ad H locs ls cells slots I k => va_lald hx hb hK I.P a 2 (za_l.at I.W hc) (za_t.at cA rfl) hin hd k)
  case baload =>
    obtain rfl : n = 1 := beq_iff_eq.mp hn
    have h9 := za_pir.iv h0 h
    clear h
    obtain ⟨a, i, r, rfl, h⟩ := h9
    have h9 := za_ai.iv h0 h
    clear h
    obtain ⟨t, k9, g, hc, h⟩ := h9
    have h9 := za_if.iv h0 h
    clear h
    obtain ⟨ht, h⟩ := h9
    have h9 := za_ix.iv h0 h
    clear h
    obtain ⟨hin, h⟩ := h9
    rcases ht with rfl | rfl
    · exact za_Z.st (hX _ h) (fun kw hl k => zk_mk trivial (zk_tl (zk_tl k))) (fun ad H locs ls cells slots I k => va_bald hx hb hK I.P a 0 (za_l.at I.W hc) (za_t.at cA rfl) hin hd k)
    · exact za_Z.st (hX _ h) (fun kw hl k => zk_mk trivial (zk_tl (zk_tl k))) (fun ad H locs ls cells slots I k => va_zald hx hb hK I.P a 3 (za_l.at I.W hc) (za_t.at cA rfl) hin hd k)
  case aaload =>
    obtain rfl : n = 1 := beq_iff_eq.mp hn
    have h9 := za_pir.iv h0 h
    clear h
    obtain ⟨a, i, r, rfl, h⟩ := h9
    have h9 := za_aq.iv h0 h
    clear h
    obtain ⟨t, k9, g, hc, h⟩ := h9
    have h9 := za_if.iv h0 h
    clear h
    obtain ⟨ht, h⟩ := h9
    have h9 := za_ix.iv h0 h
    clear h
    obtain ⟨hin, h⟩ := h9
    have h9 := za_ov.iv h0 h
    clear h
    obtain ⟨b, hb9, h⟩ := h9
    refine za_Z.st (hX _ h) (fun kw hl k => zk_mk ((kw a _ hc).2 _ b hb9) (zk_tl (zk_tl k))) (fun ad H locs ls cells slots I k => ?_)
    rcases ht with rfl | rfl
    · exact za_aald (t := 4) rfl rfl hx hb hK I.P I.W hc hin hb9 hd k
    · exact za_aald (t := 5) rfl rfl hx hb hK I.P I.W hc hin hb9 hd k
  case iastore =>
    obtain rfl : n = 1 := beq_iff_eq.mp hn
    have h9 := za_piir.iv h0 h
    clear h
    obtain ⟨a, i, x, r, rfl, h⟩ := h9
    have h9 := za_ai.iv h0 h
    clear h
    obtain ⟨t, k9, g, hc, h⟩ := h9
    have h9 := za_if.iv h0 h
    clear h
    obtain ⟨rfl, h⟩ := h9
    have h9 := za_ix.iv h0 h
    clear h
    obtain ⟨hin, h⟩ := h9
    exact za_Z.ch (hX _ h) (fun kw k => ⟨zk_tl (zk_tl (zk_tl k)), (kw a _ hc).1, trivial⟩) (fun ad H locs ls cells slots I kk => va_iast hx hb hK I.P I.dd I.S a 1 (za_l.at I.W hc) (za_t.at cA rfl) hin hd kk)
  case bastore =>
    obtain rfl : n = 1 := beq_iff_eq.mp hn
    have h9 := za_piir.iv h0 h
    clear h
    obtain ⟨a, i, x, r, rfl, h⟩ := h9
    have h9 := za_ai.iv h0 h
    clear h
    obtain ⟨t, k9, g, hc, h⟩ := h9
    by_cases ht : t = 0
    · rw [if_pos ht] at h
      subst ht
      have h9 := za_ix.iv h0 h
      clear h
      obtain ⟨hin, h⟩ := h9
      exact za_Z.ch (hX _ h) (fun kw k => ⟨zk_tl (zk_tl (zk_tl k)), (kw a _ hc).1, trivial⟩) (fun ad H locs ls cells slots I kk => va_bast hx hb hK I.P I.dd I.S a 0 (za_l.at I.W hc) (za_t.at cA rfl) hin hd kk)
    · rw [if_neg ht] at h
      have h9 := za_if.iv h0 h
      clear h
      obtain ⟨rfl, h⟩ := h9
      have h9 := za_ix.iv h0 h
      clear h
      obtain ⟨hin, h⟩ := h9
      exact za_Z.ch (hX _ h) (fun kw k => ⟨zk_tl (zk_tl (zk_tl k)), (kw a _ hc).1, trivial⟩) (fun ad H locs ls cells slots I kk => va_zast hx hb hK I.P I.dd I.S a 3 (za_l.at I.W hc) (za_t.at cA rfl) hin hd kk)
  case lastore =>
    obtain rfl : n = 1 := beq_iff_eq.mp hn
    have h9 := za_plir.iv h0 h
    clear h
    obtain ⟨a, i, x, r, rfl, h⟩ := h9
    have h9 := za_al.iv h0 h
    clear h
    obtain ⟨t, k9, g, hc, h⟩ := h9
    have h9 := za_if.iv h0 h
    clear h
    obtain ⟨rfl, h⟩ := h9
    have h9 := za_ix.iv h0 h
    clear h
    obtain ⟨hin, h⟩ := h9
    exact za_Z.ch (hX _ h) (fun kw k => ⟨zk_tl (zk_tl (zk_tl k)), (kw a _ hc).1, trivial⟩) (fun ad H locs ls cells slots I kk => va_last hx hb hK I.P I.dd I.S a 2 (za_l.at I.W hc) (za_t.at cA rfl) hin hd kk)
  case aastore =>
    obtain rfl : n = 1 := beq_iff_eq.mp hn
    have h9 := za_prir.iv h0 h
    clear h
    obtain ⟨a, i, x, r, rfl, h⟩ := h9
    have h9 := za_aq.iv h0 h
    clear h
    obtain ⟨t, k9, g, hc, h⟩ := h9
    have h9 := za_if.iv h0 h
    clear h
    obtain ⟨rfl, h⟩ := h9
    have h9 := za_ix.iv h0 h
    clear h
    obtain ⟨hin, h⟩ := h9
    have h9 := za_ob.iv h0 h
    clear h
    obtain ⟨ci, fs, hcx, h⟩ := h9
    have h9 := za_if.iv h0 h
    clear h
    obtain ⟨hkq, h⟩ := h9
    obtain ⟨cl, hcl, hcn⟩ := za_kq.of hkq
    refine za_Z.ch (hX _ h) (fun kw k => ⟨zk_tl (zk_tl (zk_tl k)), (kw a _ hc).1, fun j y hy => ?_⟩) (fun ad H locs ls cells slots I kk => ?_)
    · have hy : (if j = i.toNatClampNeg then some x else g j) = some y := hy
      by_cases hj : j = i.toNatClampNeg
      · rw [if_pos hj] at hy
        cases hy
        exact (zk_hd k : za_k w.1 (.ref x))
      · rw [if_neg hj] at hy
        exact (kw a _ hc).2 j y hy
    have ef : (fun j => (va_up g i.toNatClampNeg (some x) j).map ad) = va_up (fun j => (g j).map ad) i.toNatClampNeg (some (ad x)) := by
      funext j
      unfold va_up
      split <;> rfl
    have e1 : za_e ad cA (.inl (4, k9, .inr (.inr (.inr (.inr (va_up g i.toNatClampNeg (some x))))))) = .inl (cA 4, k9, .inr (.inr (.inr (.inr (va_up (fun j => (g j).map ad) i.toNatClampNeg (some (ad x))))))) := by
      show (Sum.inl (cA 4, k9, .inr (.inr (.inr (.inr fun j => (va_up g i.toNatClampNeg (some x) j).map ad)))) : va_E) = _
      rw [ef]
    rw [e1] at kk
    exact va_astq (r := cl) hx hb hK I.P I.dd I.S a 4 x ci (za_l.at I.W hc) (by rw [hcn]; exact za_t.at cA rfl) (za_l.at I.W hcx) hcl hin hd kk
  case new j =>
    obtain rfl : n = 3 := beq_iff_eq.mp hn
    have h9 := za_ov.iv h0 h
    clear h
    obtain ⟨ci, hq, h⟩ := h9
    obtain ⟨cl, h1, h2, h3, h4, h5⟩ := zt_nw_of hq
    have hnr : ∀ y ∈ zt_df.getD ci [], ∀ k, za_k k y := za_df.k ci
    refine za_Z.mk hRc hRs (hX _ h) (fun k => k) (fun k y hy => hnr y hy k) (fun ad H locs ls cells slots I g1 g2 kk => ?_)
    have e1 : za_e ad cA (.inr (ci, zt_df.getD ci [])) = .inr (ci, zt_df.getD ci []) := by
      show (Sum.inr (ci, (zt_df.getD ci []).map (za_v ad)) : va_E) = _
      rw [za_df.map ci ad]
    rw [e1] at kk
    rw [h5] at kk g2
    exact va_new (C := cl.1) (T := cl.2.1) (N := cl.2.2) hx hb hts (zt_us h1) (za_ft ci) (fun k hk => (zt_tys h1 k hk).1) hown (hts _ h2) (hts _ h3) (hts _ h4) hK I.P I.dd I.S I.aa h1 (fun k hk => (zt_tys h1 k hk).2.1) g1 g2 hd kk
  case newarray a =>
    obtain rfl : n = 2 := beq_iff_eq.mp hn
    have h9 := za_p1i.iv h0 h
    clear h
    obtain ⟨x, r, rfl, h⟩ := h9
    have h9 := za_ov.iv h0 h
    clear h
    obtain ⟨t, ht, h⟩ := h9
    have h9 := za_if.iv h0 h
    clear h
    obtain ⟨⟨hx0, hx1⟩, h⟩ := h9
    refine za_Z.mk hRc hRs (hX _ h) (fun k => zk_tl k) (za_na.k t _) (fun ad H locs ls cells slots I g1 g2 kk => ?_)
    exact za_newa ht hx hb hts hK I.P I.dd I.S I.aa hx0 hx1 g1 g2 hd kk
  case anewarray j =>
    obtain rfl : n = 3 := beq_iff_eq.mp hn
    have h9 := za_p1i.iv h0 h
    clear h
    obtain ⟨x, r, rfl, h⟩ := h9
    have h9 := za_ov.iv h0 h
    clear h
    obtain ⟨t, ht, h⟩ := h9
    have h9 := za_if.iv h0 h
    clear h
    obtain ⟨⟨hx0, hx1⟩, h⟩ := h9
    obtain ⟨ci, hci, hkq⟩ := Option.bind_eq_some_iff.mp ht
    refine za_Z.mk hRc hRs (hX _ h) (fun k => zk_tl k) (fun k j y hy => by cases hy) (fun ad H locs ls cells slots I g1 g2 kk => ?_)
    exact za_newq hci hkq hx hb hown hts hnw hK I.P I.dd I.S I.aa hx0 hx1 g1 g2 hd kk
  case ireturn =>
    obtain rfl : n = 1 := beq_iff_eq.mp hn
    have h : za_d me Y (fun o' w' => o' = v ∧ w' = wz) X (za_rti me st w) := h
    obtain ⟨x, rfl, h1, h2, h⟩ := za_rti.iv h
    obtain ⟨e1, rfl⟩ := h
    subst e1
    refine ⟨⟨Nat.le_refl _, Nat.le_refl _⟩, fun ad H locs ls cells slots I hag hc hs => ?_⟩
    refine W.widen (k := w.1 - w0.1) (n := w.2.1 - w0.2.1) (by omega) (by omega) ?_
    obtain ⟨ty, hty⟩ := Option.isSome_iff_exists.mp h2
    rw [hty] at h1
    exact za_Wm (W.zret (Qc := za_Q D cA A ad0 w0 (.inl (some (.int x))) w) (free := A) hx hb (hr.trans hty) h1 (fun t ht hW => ⟨⟨ad, hag, rfl, by rw [ht]; exact I.P, I.dd, I.W, (fun y hy => by cases hy; trivial), (fun y hy => by cases hy)⟩, I.S.F ht⟩) I.S.2.2 hd hlk) za_MQ.of
  case lreturn =>
    obtain rfl : n = 1 := beq_iff_eq.mp hn
    have h : za_d me Y (fun o' w' => o' = v ∧ w' = wz) X (za_rtl me st w) := h
    obtain ⟨x, rfl, h1, h⟩ := za_rtl.iv h
    obtain ⟨e1, rfl⟩ := h
    subst e1
    refine ⟨⟨Nat.le_refl _, Nat.le_refl _⟩, fun ad H locs ls cells slots I hag hc hs => ?_⟩
    refine W.widen (k := w.1 - w0.1) (n := w.2.1 - w0.2.1) (by omega) (by omega) ?_
    exact za_Wm (W.lret (Qc := za_Q D cA A ad0 w0 (.inl (some (.long x))) w) (free := A) hx hb (hr.trans h1) (fun t ht hW => ⟨⟨ad, hag, rfl, by rw [ht]; exact I.P, I.dd, I.W, (fun y hy => by cases hy; trivial), (fun y hy => by cases hy)⟩, I.S.F ht⟩) I.S.2.2 hd hlk) za_MQ.of
  case return_ =>
    obtain rfl : n = 1 := beq_iff_eq.mp hn
    have h : za_d me Y (fun o' w' => o' = v ∧ w' = wz) X (za_rtv me st w) := h
    obtain ⟨rfl, h1, h⟩ := za_rtv.iv h
    obtain ⟨e1, rfl⟩ := h
    subst e1
    refine ⟨⟨Nat.le_refl _, Nat.le_refl _⟩, fun ad H locs ls cells slots I hag hc hs => ?_⟩
    refine W.widen (k := w.1 - w0.1) (n := w.2.1 - w0.2.1) (by omega) (by omega) ?_
    exact za_Wm (W.vret (Qc := za_Q D cA A ad0 w0 (.inl none) w) (free := A) hx hb (hr.trans h1) (fun t ht hW => ⟨⟨ad, hag, rfl, by rw [ht]; exact I.P, I.dd, I.W, (fun y hy => by cases hy), (fun y hy => by cases hy)⟩, I.S.F ht⟩) I.S.2.2 hd hlk) za_MQ.of
  case multianewarray j d =>
    obtain rfl : n = 4 := beq_iff_eq.mp hn
    have h9 := za_if.iv h0 h
    clear h
    obtain ⟨⟨rfl, hmm⟩, h⟩ := h9
    have h9 := za_p2i.iv h0 h
    clear h
    obtain ⟨n9, k9, r, rfl, h⟩ := h9
    have h9 := za_if.iv h0 h
    clear h
    obtain ⟨⟨q1, q2, q3, q4⟩, h⟩ := h9
    refine za_Z.mn hRc hRs (hX _ h) (fun k => zk_tl (zk_tl k)) (fun ad H locs ls cells slots I g1 g2 kk => ?_)
    exact za_newm hx hb hown (hts _ (zt_mm_of hmm)) (zm_w.moved (Vm.Alike.refl _) (hnw _ zw_aa)) (hts _ zw_aic) hK I.P I.dd I.S I.aa I.W q1 q2 q3 q4 g1 g2 hd kk
  case athrow =>
    obtain rfl : n = 1 := beq_iff_eq.mp hn
    have h9 := za_if.iv h0 h
    clear h
    obtain ⟨hle, h⟩ := h9
    have h9 := za_p1r.iv h0 h
    clear h
    obtain ⟨a, r, rfl, h⟩ := h9
    obtain ⟨e1, rfl⟩ := h
    subst e1
    refine ⟨⟨Nat.le_refl _, Nat.le_refl _⟩, fun ad H locs ls cells slots I hag hc hs => ?_⟩
    refine W.widen (k := w.1 - w0.1) (n := w.2.1 - w0.2.1) (by omega) (by omega) ?_
    exact za_thr hx hb (za_xt.no hex hle) hlk hag I hd
  case invokevirtual j =>
    exact hcall ⟨j, Or.inl rfl⟩
  case invokestatic j =>
    exact hcall ⟨j, Or.inr (Or.inl rfl)⟩
  case invokespecial j =>
    exact hcall ⟨j, Or.inr (Or.inr rfl)⟩
  all_goals exact (h0 h).elim
end ZU
