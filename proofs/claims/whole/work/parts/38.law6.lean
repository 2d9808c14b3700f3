/-! THE LAW, 6: its entry, its end; the law whole. -/
set_option maxRecDepth 100000 in
theorem zl_k0 : Cond.instantiable "java/lang/ArrayIndexOutOfBoundsException" 6 ∈ za_tg := za_tg.of (p := 973) (by decide +kernel) rfl
set_option maxRecDepth 100000 in
theorem zl_k1 : Cond.instantiable "SortPacks$BitReader" 2 ∈ za_tg := za_tg.of (p := 374) (by decide +kernel) rfl
set_option maxRecDepth 100000 in
theorem zl_k2 : Cond.instantiable "SortPacks$BitWriter" 3 ∈ za_tg := za_tg.of (p := 289) (by decide +kernel) rfl
set_option maxRecDepth 100000 in
theorem zl_k3 : Cond.instantiable "SortPacks$Codes" 5 ∈ za_tg := za_tg.of (p := 305) (by decide +kernel) rfl
set_option maxRecDepth 100000 in
theorem zl_k4 : Cond.instantiable "SortPacks$Coding" 5 ∈ za_tg := za_tg.of (p := 145) (by decide +kernel) rfl
set_option maxRecDepth 100000 in
theorem zl_k5 : Cond.instantiable "SortPacks$Front" 2 ∈ za_tg := za_tg.of (p := 236) (by decide +kernel) rfl
set_option maxRecDepth 100000 in
theorem zl_k6 : Cond.instantiable "SortPacks$Opener" 13 ∈ za_tg := za_tg.of (p := 365) (by decide +kernel) rfl
set_option maxRecDepth 100000 in
theorem zl_k7 : Cond.instantiable "SortPacks$Packer" 12 ∈ za_tg := za_tg.of (p := 230) (by decide +kernel) rfl
set_option maxRecDepth 100000 in
theorem zl_k8 : Cond.instantiable "SortPacks$Row" 2 ∈ za_tg := za_tg.of (p := 118) (by decide +kernel) rfl
set_option maxRecDepth 100000 in
theorem zl_k9 : Cond.instantiable "SortPacks$TableMaker" 9 ∈ za_tg := za_tg.of (p := 252) (by decide +kernel) rfl
set_option maxRecDepth 100000 in
theorem zl_k10 : Cond.instantiable "SortPacks$Told" 7 ∈ za_tg := za_tg.of (p := 139) (by decide +kernel) rfl
set_option maxRecDepth 100000 in
theorem zl_k11 : Cond.instantiable "SortPacks$Turns" 4 ∈ za_tg := za_tg.of (p := 211) (by decide +kernel) rfl
set_option maxRecDepth 100000 in
theorem zl_k12 : Cond.instantiable "SortPacks" 7 ∈ za_tg := za_tg.of (p := 104) (by decide +kernel) rfl
set_option maxRecDepth 100000 in
theorem zl_k13 : Cond.instantiable "SortPacksModel$Broken" 7 ∈ za_tg := za_tg.of (p := 1054) (by decide +kernel) rfl
set_option maxRecDepth 100000 in
theorem zl_k14 : Cond.instantiable "SortPacksModel" 47 ∈ za_tg := za_tg.of (p := 1048) (by decide +kernel) rfl
theorem zl_kn {s : State} {args : Array Value} (hts : ∀ w ∈ za_tg, w.before args s = true) (k : Nat) : ∃ (d : ClassId) (i : Nat → Nat), ∀ q : vw_C, vwCl[k]? = some q → u_Kn s q.1 q.2.1 q.2.2 d i := by
  cases hq : vwCl[k]? with
  | none => exact ⟨0, fun _ => 0, fun q h => by cases h⟩
  | some q =>
    have hin := zt_us hq
    have key : ∃ n, Cond.instantiable q.1 n ∈ za_tg := by
      match k, hq with
      | 0, hq => cases hq; exact ⟨_, zl_k0⟩
      | 1, hq => cases hq; exact ⟨_, zl_k1⟩
      | 2, hq => cases hq; exact ⟨_, zl_k2⟩
      | 3, hq => cases hq; exact ⟨_, zl_k3⟩
      | 4, hq => cases hq; exact ⟨_, zl_k4⟩
      | 5, hq => cases hq; exact ⟨_, zl_k5⟩
      | 6, hq => cases hq; exact ⟨_, zl_k6⟩
      | 7, hq => cases hq; exact ⟨_, zl_k7⟩
      | 8, hq => cases hq; exact ⟨_, zl_k8⟩
      | 9, hq => cases hq; exact ⟨_, zl_k9⟩
      | 10, hq => cases hq; exact ⟨_, zl_k10⟩
      | 11, hq => cases hq; exact ⟨_, zl_k11⟩
      | 12, hq => cases hq; exact ⟨_, zl_k12⟩
      | 13, hq => cases hq; exact ⟨_, zl_k13⟩
      | 14, hq => cases hq; exact ⟨_, zl_k14⟩
      | k + 15, hq => cases hq
    obtain ⟨n, hn⟩ := key
    obtain ⟨d, i, h⟩ := u_known (C := q.1) (T := q.2.1) (N := q.2.2) (n := n) hts hin (hts _ hn)
    exact ⟨d, i, fun q' h' => by cases h'; exact h⟩
theorem zl_arr {s : State} {args : Array Value} {ty : FieldType} (h : (Cond.arrayClass ty).before args s = true) (hne : ∀ C, ty ≠ .object C) : ∃ c : ClassId, ArrOfT s c ty ∧ va_RA s c ty := by
  obtain ⟨c, k, comp, h1, h2, h3⟩ := Cond.arrayClass_spec h
  refine ⟨c, fun n z => ⟨(fun x hx => by cases hx), k, h2, comp, h3⟩, ?_⟩
  cases ty <;> first | exact h1 | exact absurd rfl (hne _)
theorem zl_arrs {s : State} {args : Array Value} (hts : ∀ w ∈ za_tg, w.before args s = true) (hnw : ∀ w ∈ za_nl, va_Nw w s) (k : Nat) : ∃ c : ClassId, ∀ ty, zt_ty[k]? = some ty → ArrOfT s c ty ∧ va_RA s c ty := by
  match k with
  | 0 => obtain ⟨c, h⟩ := zl_arr (hts _ zw_abc) (fun C h => by cases h); exact ⟨c, fun ty e => by cases e; exact h⟩
  | 1 => obtain ⟨c, h⟩ := zl_arr (hts _ zw_aic) (fun C h => by cases h); exact ⟨c, fun ty e => by cases e; exact h⟩
  | 2 => obtain ⟨c, h⟩ := zl_arr (hts _ zw_alc) (fun C h => by cases h); exact ⟨c, fun ty e => by cases e; exact h⟩
  | 3 => obtain ⟨c, h⟩ := zl_arr (hts _ zw_azc) (fun C h => by cases h); exact ⟨c, fun ty e => by cases e; exact h⟩
  | 4 =>
    obtain ⟨comp, c, k, h1, h2, h3, h4, h5⟩ := Cond.arrayOver_spec (hnw _ zw_ao)
    exact ⟨c, fun ty e => by cases e; exact ⟨fun n z => ⟨(fun x hx => by cases hx), k, h3, comp, h4⟩, k, comp, h3, h4, h1, h5⟩⟩
  | 5 =>
    obtain ⟨comp, c, k, h1, h2, h3, h4, h5⟩ := zm_w.of (hnw _ zw_aa)
    exact ⟨c, fun ty e => by cases e; exact ⟨fun n z => ⟨(fun x hx => by cases hx), k, h3, comp, h4⟩, h5⟩⟩
  | k + 6 => exact ⟨0, fun ty e => by cases e⟩
set_option maxRecDepth 100000 in
theorem zl_start {p : Program} {s : State} {m : MethodId} {c : Code} {b L : Nat} {xs : Nat → Int32} (hx : p.tables.exec = Jvm.exec) (hb : c.code = code) (hml : c.maxLocals = 7) (hown : s.vm.findClass "SortPacksLaw" = some m.cls) (hts0 : ∀ w ∈ lw_tbl, w.before #[Value.ref b] s = true) (hX : va_X b L xs s s.heap) (hbl : b < s.heap.size) (hgv : (Jvm.Cond.and given_1 narrow_1).before #[Value.ref b] s = true) : ∃ (D : va_G) (cA : Nat → ClassId), zl_F D cA p s m c b L xs := by
  have hts : ∀ w ∈ za_tg, w.before #[Value.ref b] s = true := fun w hw => hts0 w (List.mem_filter.mp hw).1
  have hnw : ∀ w ∈ za_nl, va_Nw w s := by
    intro w hw
    have h2 := hts0 w (List.mem_filter.mp hw).1
    rcases za_in.of (List.mem_filter.mp hw).2 with ⟨a, b, c, d, e, f, rfl⟩ | ⟨a, b, c, d, rfl⟩ | ⟨C, rfl⟩ | rfl
    · exact va_Nw.of rfl h2
    · exact va_Nw.of rfl h2
    · exact va_AO.of h2
    · exact zm_w.moved (u := s) (Vm.Alike.refl _) h2
  have hk := zl_kn hts
  have ha := zl_arrs hts hnw
  refine ⟨(fun k => (hk k).choose, fun k => (hk k).choose_spec.choose), fun k => (ha k).choose, hx, hb, hml, hown, hts, ⟨fun k q hq => (hk k).choose_spec.choose_spec q hq, fun k q hq => ?_⟩, hnw, ⟨?_, ?_⟩, hX, hbl⟩
  · unfold za_t at hq
    rw [List.getElem?_mapIdx] at hq
    cases hty : zt_ty[k]? with
    | none => rw [hty] at hq; cases hq
    | some ty =>
      rw [hty] at hq
      cases hq
      exact (ha k).choose_spec ty hty
  · exact va_Zqof (hts0 _ (List.mem_of_getElem? (i := 1001) (by decide +kernel))) (hts _ zb_iT) (flat_of_before _ hgv _ (by decide +kernel)) (fun a h1 h2 => by omega)
  · exact va_Zqof (hts0 _ (List.mem_of_getElem? (i := 1003) (by decide +kernel))) (hts _ zb_iT) (flat_of_before _ hgv _ (by decide +kernel)) (fun a h1 h2 => by omega)
