/-! FROM THE ABSTRACT MACHINE TO THE MACHINE, 4: calls; every method. -/
def za_y (me : Nat) : MethodName := ((zt_m[me]?).map (fun q => q.1)).getD ⟨"", "", ""⟩
def za_wq (me : Nat) : List Cond := Cond.code (za_y me) (za_cc me) (za_mx me) (za_re me) :: za_tg
def za_room (me : Nat) (w w' : za_W) : Room := { frames := za_fr me, cells := w'.1 - w.1, slots := w'.2.1 - w.2.1, locals := za_lo me }
def za_Pre (D : va_G) (cA : Nat → ClassId) (ad : Nat → Nat) (as : List Value) (w : za_W) (sz : Nat) : Array Value → State → Prop := va_Pc (as.map (za_v ad)) (fun U => U.heap.size = sz ∧ va_P D vwCl (za_l ad cA w) U.heap ∧ va_K D vwCl (za_t cA) U ∧ va_D (fun _ => True) (za_l ad cA w) ∧ (∀ u ∈ za_nl, va_Nw u U) ∧ zb_Z (va_A (za_l ad cA w) sz) U)
/-- what a run says of the machine: the method's contract -/
def za_Mt (L : Launch) (mi : Nat) (as : List Value) (w : za_W) (o : za_O) (w' : za_W) (D : va_G) (cA : Nat → ClassId) (ad : Nat → Nat) (sz : Nat) : Prop :=
  MetFree L (za_y mi) (headSpec (za_wq mi) (za_room mi w w')) (za_Pre D cA ad as w sz) (fun _ _ _ _ _ => True) (fun a st oc t => za_Q D cA (va_A (za_l ad cA w) sz) ad w o w' a st oc t ∧ ∃ Lc, za_FE st t Lc (w'.1 - w.1) (w'.2.1 - w.2.1) ∧ ∀ q ∈ Lc, va_A (za_l ad cA w) sz q.base)
def za_M (L : Launch) : za_Y := fun mi as w o w' => mi < zt_mp0.length → za_aw as ≤ za_mx mi → w.1 ≤ w'.1 ∧ w.2.1 ≤ w'.2.1 ∧ (za_kw w → (∀ x ∈ as, za_k w.1 x) → ∀ (D : va_G) (cA : Nat → ClassId) (ad : Nat → Nat) (sz : Nat), za_Mt L mi as w o w' D cA ad sz)
theorem za_Mt.met {L : Launch} {mi : Nat} {as : List Value} {w w' : za_W} {v : Option Value} {D : va_G} {cA : Nat → ClassId} {ad : Nat → Nat} {sz : Nat} (h : za_Mt L mi as w (.inl v) w' D cA ad sz) : Met L (za_y mi) (za_wq mi) (za_room mi w w') (za_Pre D cA ad as w sz) (za_Q D cA (va_A (za_l ad cA w) sz) ad w (.inl v) w') (w'.1 - w.1) (w'.2.1 - w.2.1) (va_A (za_l ad cA w) sz) := by
  intro p e h1 h2 h3 s m args below h4 h5 h6 h7
  obtain ⟨n, o, g1, g2, g3, g4, Lc, g5, g6⟩ := h p e h1 h2 h3 s m args below h4 h5 h6 h7
  refine ⟨n, o, g1, g2, g3, g4, Lc, ⟨?_, g5.1, g5.2⟩, g6⟩
  obtain ⟨⟨ad', -, e1, -⟩, -⟩ := g4
  exact ⟨_, e1⟩
theorem za_tg.good : ∀ w ∈ za_tg, (w.onTables && w.keeps) = true ∨ ∃ ty, w = .arrayClass ty := fun _ hw => good_of_word (List.mem_filter.mp hw).2
theorem za_wq.in {mi : Nat} (h : Cond.code (za_y mi) (za_cc mi) (za_mx mi) (za_re mi) ∈ za_tg) : ∀ w ∈ za_wq mi, w ∈ za_tg := fun _ hw => (List.mem_cons.mp hw).elim (fun e => by rw [e]; exact h) (fun h => h)
theorem za_in.of {w : Cond} (h : za_in w = true) : (∃ a b c d e f, w = .fieldLinkNest a b c d e f) ∨ (∃ a b c d, w = .methodLinkNest a b c d) ∨ (∃ C, w = .arrayOver (.object C)) ∨ w = .arrayOver (.array .int) := by
  unfold za_in at h
  split at h
  · exact Or.inl ⟨_, _, _, _, _, _, rfl⟩
  · exact Or.inr (Or.inl ⟨_, _, _, _, rfl⟩)
  · exact Or.inr (Or.inr (Or.inl ⟨_, rfl⟩))
  · exact Or.inr (Or.inr (Or.inr rfl))
  · cases h
theorem za_nw.warm {s U : State} (hW : s.WarmedH U.vm) (h : ∀ w ∈ za_nl, va_Nw w s) : ∀ w ∈ za_nl, va_Nw w U := by
  intro w hw
  have h2 := h w hw
  rcases za_in.of (List.mem_filter.mp hw).2 with ⟨a, b, c, d, e, f, rfl⟩ | ⟨a, b, c, d, rfl⟩ | ⟨C, rfl⟩ | rfl
  · exact va_Nw.warmF hW h2
  · exact va_Nw.warmM hW h2
  · exact va_AO.moved hW.alike h2
  · exact zm_w.moved (u := s) hW.alike h2
theorem za_nw.calling {U V : State} (hv : U.vm = V.vm) (h : ∀ w ∈ za_nl, va_Nw w U) : ∀ w ∈ za_nl, va_Nw w V := by
  intro w hw
  have h2 := h w hw
  rcases za_in.of (List.mem_filter.mp hw).2 with ⟨a, b, c, d, e, f, rfl⟩ | ⟨a, b, c, d, rfl⟩ | ⟨C, rfl⟩ | rfl
  · exact va_Nw.same rfl hv h2
  · exact va_Nw.same rfl hv h2
  · exact va_AO.moved (by rw [hv]; exact Vm.Alike.refl _) h2
  · exact zm_w.moved (u := U) (by rw [hv]; exact Vm.Alike.refl _) h2
theorem za_Pre.blind (D : va_G) (cA : Nat → ClassId) (ad : Nat → Nat) (as : List Value) (w : za_W) (sz : Nat) : FrameBlind (za_Pre D cA ad as w sz) := by
  intro a U g mk h
  obtain ⟨h1, h2, h3, h4, h5, h6, h7⟩ := h
  exact ⟨h1, h2, h3, va_K.moved (u := U) (U := U.calling g mk a) (Vm.Alike.refl U.vm) h4, h5, za_nw.calling (U := U) (V := U.calling g mk a) rfl h6, zb_Z.calling (U := U) (V := U.calling g mk a) rfl rfl h7⟩
theorem zt_m_of {mi : Nat} (h : mi < zt_mp0.length) : ∃ q r, zt_m[mi]? = some q ∧ zt_mp[mi]? = some r ∧ zt_mk mi = true ∧ Cond.code q.1 q.2.1 q.2.2.1 q.2.2.2.1 ∈ za_tg := by
  have h1 := List.all_eq_true.mp zt_m_ok mi (List.mem_range.mpr h)
  have h2 := h1
  unfold zt_mk at h2
  cases hq : zt_m[mi]? with
  | none => rw [hq] at h2; cases h2
  | some q =>
    cases hr : zt_mp[mi]? with
    | none => rw [hq, hr] at h2; cases h2
    | some r =>
      refine ⟨q, r, rfl, rfl, h1, zt_cd q ?_⟩
      have h3 : (zt_mp0 ++ zt_mh)[mi]? = some q := hq
      rw [List.getElem?_append_left h] at h3
      exact List.mem_of_getElem? h3
/-- of a method: its words, its names -/
theorem zt_w_of {mi : Nat} (h : mi < zt_mp0.length) : Cond.code (za_y mi) (za_cc mi) (za_mx mi) (za_re mi) ∈ za_tg ∧ za_rn (za_ow mi) = (za_y mi).cls ∧ (za_im mi = true → (za_y mi).name = "<init>") ∧ plainName (za_y mi).cls = true ∧ ((za_y mi).cls ≠ "java/lang/invoke/MethodHandle" ∧ (za_y mi).cls ≠ "java/lang/invoke/VarHandle") ∧ (parseMethodDescriptor (za_y mi).desc).map (fun d => d.parameters.length) = some (za_np mi) ∧ Cond.initialized (za_y mi).cls ∈ za_tg := by
  obtain ⟨q, r, hq, hr, hk, hc⟩ := zt_m_of h
  have e1 : za_y mi = q.1 := by unfold za_y; rw [hq]; rfl
  have e2 : za_cc mi = q.2.1 := by unfold za_cc; rw [hq]; rfl
  have e3 : za_mx mi = q.2.2.1 := by unfold za_mx; rw [hq]; rfl
  have e4 : za_re mi = q.2.2.2.1 := by unfold za_re; rw [hq]; rfl
  have e5 : za_ow mi = q.2.2.2.2.1 := by unfold za_ow; rw [hq]; rfl
  have e6 : za_np mi = q.2.2.2.2.2.1 := by unfold za_np; rw [hq]; rfl
  rw [e1, e2, e3, e4, e5, e6]
  unfold zt_mk at hk
  rw [hq, hr] at hk
  simp only [Bool.and_eq_true, decide_eq_true_eq] at hk
  obtain ⟨⟨⟨⟨⟨⟨k1, k2⟩, k3⟩, k4⟩, k5⟩, k6⟩, -⟩ := hk
  exact ⟨hc, k1, k2, k3, k4, k5, za_tg.of k6 rfl⟩
/-- of a call: its link, and what kind of method it is -/
theorem zt_c_of {o i : Nat} {q : Nat × Nat} (h : za_cl o i = some q) (hm : q.2 < zt_mp0.length) (hk : q.1 < 6) :
    (q.1 % 2 = 0 → Cond.methodLink (za_rn o) i (za_y q.2) ∈ za_tg) ∧ (q.1 % 2 ≠ 0 → ∃ host, Cond.methodLinkNest (za_rn o) i (za_y q.2) host ∈ za_nl) ∧
    (q.1 / 2 = 0 → Cond.instanceMethod (za_y q.2) ∈ za_tg ∧ Cond.selects (za_y q.2).cls (za_y q.2) (za_y q.2) ∈ za_tg) ∧ (q.1 / 2 = 1 → Cond.static (za_y q.2) ∈ za_tg) ∧ (q.1 / 2 = 2 → Cond.instanceMethod (za_y q.2) ∈ za_tg ∧ (za_y q.2).name = "<init>") := by
  obtain ⟨e, he, hp, rfl⟩ := za_fnd h
  have h1 := List.all_eq_true.mp zt_c_ok e he
  simp only [Bool.and_eq_true, beq_iff_eq] at hp
  obtain ⟨rfl, rfl⟩ := hp
  obtain ⟨q, r, hq, hr, hmk, hc⟩ := zt_m_of hm
  have e1 : za_y e.2.2.2.1 = q.1 := by unfold za_y; rw [hq]; rfl
  show (e.2.2.1 % 2 = 0 → Cond.methodLink (za_rn e.1) e.2.1 (za_y e.2.2.2.1) ∈ za_tg) ∧ _
  have hk : e.2.2.1 < 6 := hk
  have hq : zt_m[e.2.2.2.1]? = some q := hq
  have hr : zt_mp[e.2.2.2.1]? = some r := hr
  obtain ⟨o, i, k, mj, host, pl⟩ := e
  dsimp only at *
  rw [e1]
  unfold zt_ck at h1
  unfold zt_mk at hmk
  rw [hq, hr] at hmk
  simp only [Bool.and_eq_true, decide_eq_true_eq] at hmk
  obtain ⟨-, hmk⟩ := hmk
  match k, hk, h1 with
  | 0, _, h1 =>
    simp only [hq, hr, Bool.and_eq_true, decide_eq_true_eq, Nat.zero_mod, Nat.zero_div, if_true] at h1
    obtain ⟨⟨k1, k2, k3⟩, -⟩ := h1
    rw [if_pos k2] at hmk
    simp only [Bool.and_eq_true, Bool.or_eq_true, decide_eq_true_eq] at hmk
    have k3 : (q.1.name == "<init>") = false := by simpa using k3
    exact ⟨fun _ => za_tg.of k1 rfl, fun n => absurd rfl n, fun _ => ⟨za_tg.of hmk.1 rfl, za_tg.of (hmk.2.resolve_left (by rw [k3]; exact Bool.false_ne_true)) rfl⟩, (fun n => by cases n), (fun n => by cases n)⟩
  | 1, _, h1 =>
    simp only [hq, hr, Bool.and_eq_true, decide_eq_true_eq, Nat.reduceMod, Nat.reduceDiv, Nat.one_ne_zero, Nat.reduceEqDiff, ↓reduceIte, if_true, if_false, Bool.not_eq_true', beq_iff_eq, ne_eq] at h1
    obtain ⟨⟨k1, k2, k3⟩, -⟩ := h1
    rw [if_pos k2] at hmk
    simp only [Bool.and_eq_true, Bool.or_eq_true, decide_eq_true_eq] at hmk
    exact ⟨(fun n => by cases n), fun _ => ⟨host, za_nl.of k1 rfl⟩, fun _ => ⟨za_tg.of hmk.1 rfl, za_tg.of (hmk.2.resolve_left (by rw [k3]; exact Bool.false_ne_true)) rfl⟩, (fun n => by cases n), (fun n => by cases n)⟩
  | 2, _, h1 =>
    simp only [hq, hr, Bool.and_eq_true, decide_eq_true_eq, Nat.reduceMod, Nat.reduceDiv, Nat.one_ne_zero, Nat.reduceEqDiff, ↓reduceIte, if_true, if_false, Bool.not_eq_true', beq_iff_eq, ne_eq] at h1
    obtain ⟨⟨k1, k2⟩, -⟩ := h1
    rw [if_neg k2] at hmk
    exact ⟨fun _ => za_tg.of k1 rfl, fun n => absurd rfl n, (fun n => by cases n), fun _ => za_tg.of (of_decide_eq_true hmk) rfl, (fun n => by cases n)⟩
  | 3, _, h1 =>
    simp only [hq, hr, Bool.and_eq_true, decide_eq_true_eq, Nat.reduceMod, Nat.reduceDiv, Nat.one_ne_zero, Nat.reduceEqDiff, ↓reduceIte, if_true, if_false, Bool.not_eq_true', beq_iff_eq, ne_eq] at h1
    obtain ⟨⟨k1, k2⟩, -⟩ := h1
    rw [if_neg k2] at hmk
    exact ⟨(fun n => by cases n), fun _ => ⟨host, za_nl.of k1 rfl⟩, (fun n => by cases n), fun _ => za_tg.of (of_decide_eq_true hmk) rfl, (fun n => by cases n)⟩
  | 4, _, h1 =>
    simp only [hq, hr, Bool.and_eq_true, decide_eq_true_eq, Nat.reduceMod, Nat.reduceDiv, Nat.one_ne_zero, Nat.reduceEqDiff, ↓reduceIte, if_true, if_false, Bool.not_eq_true', beq_iff_eq, ne_eq] at h1
    obtain ⟨⟨k1, k2, k3⟩, -⟩ := h1
    rw [if_pos k2] at hmk
    simp only [Bool.and_eq_true, Bool.or_eq_true, decide_eq_true_eq, beq_iff_eq] at hmk
    exact ⟨fun _ => za_tg.of k1 rfl, fun n => absurd rfl n, (fun n => by cases n), (fun n => by cases n), fun _ => ⟨za_tg.of hmk.1 rfl, k3⟩⟩
  | 5, _, h1 =>
    simp only [hq, hr, Bool.and_eq_true, decide_eq_true_eq, Nat.reduceMod, Nat.reduceDiv, Nat.one_ne_zero, Nat.reduceEqDiff, ↓reduceIte, if_true, if_false, Bool.not_eq_true', beq_iff_eq, ne_eq] at h1
    obtain ⟨⟨k1, k2, k3⟩, -⟩ := h1
    rw [if_pos k2] at hmk
    simp only [Bool.and_eq_true, Bool.or_eq_true, decide_eq_true_eq, beq_iff_eq] at hmk
    exact ⟨(fun n => by cases n), fun _ => ⟨host, za_nl.of k1 rfl⟩, (fun n => by cases n), (fun n => by cases n), fun _ => ⟨za_tg.of hmk.1 rfl, k3⟩⟩
