/-! OUT, 3: Row.has that says no; SortPacks.out that throws. -/
set_option maxRecDepth 100000 in
theorem zo_f19 : Cond.fieldLink "SortPacks$Row" 19 "SortPacks$Row" "size" "I" ∈ za_tg := za_tg.of (p := 126) (by decide +kernel) rfl
set_option maxRecDepth 100000 in
theorem zo_f31 : Cond.fieldLink "SortPacks" 31 "SortPacks" "out" "LSortPacks$Row;" ∈ za_tg := za_tg.of (p := 431) (by decide +kernel) rfl
def zo_rw (r b : Nat) (z : Int32) : va_W := [(r, .inr (8, [.ref b, .int z]))]
def zo_hP (D : va_G) (r b : Nat) (z p0 : Int32) : Array Value → State → Prop := va_Pc [.ref r, .int p0] (fun U => va_P D vwCl (zo_rw r b z) U.heap ∧ va_K D vwCl [] U)
def zo_hQ : Array Value → State → Outcome → State → Prop := va_Qi (fun (v : Int32) (_ : Unit) => v = 0) (fun _ _ => True) (fun _ => False)
set_option maxHeartbeats 4000000 in
set_option maxRecDepth 100000 in
theorem zo_has (l : Launch) (D : va_G) {r b : Nat} {z p0 : Int32} (hno : p0 < 0 ∨ z ≤ p0) : Met l (za_y 71) (za_wq 71) { frames := 0, cells := 0, slots := 0, locals := 0 } (zo_hP D r b z p0) zo_hQ 0 0 (fun _ => False) := by
  refine Met.ofW (cc := cX7_has) (maxL := 2) (ret := some .boolean) (by decide +kernel) rfl ?_
  intro p e s m args below meth c s₁ B hml hv
  obtain ⟨rfl, hP, hK⟩ := hv
  have hx := B.exec
  have hb := B.bytes
  have hr := B.returns
  have hts0 := atoms_spec (ws := za_wq 71) B.pre
  have hts : ∀ w ∈ za_tg, w.before _ s = true := fun w hw => hts0 w (List.mem_cons_of_mem _ hw)
  have hown : s.vm.findClass "SortPacks$Row" = some m.cls := findClass_of_methodNamed B.named
  have hl := lv_entry ([.ref r, .int p0]) (n := 2) (Nat.le_of_ble_eq_true rfl)
  rw [lg_entry_eq]
  generalize (lg_sl ([.ref r, .int p0]) ++ List.replicate (2 - (lg_sl ([.ref r, .int p0])).length) Slot.unset).toArray = ls at hl ⊢
  have hl : lv_has ls 2 [(0, .ref r), (1, .int p0)] := hl
  have hS : va_S (fun _ => False) s.heap s.heap [] := va_S.rf
  have fin : W p l e (headSpec (za_wq 71) { frames := 0, cells := 0, slots := 0, locals := 0 }).room s m #[Value.ref r, Value.int p0] below meth c s.heap [] 0 0 (MQ below zo_hQ #[Value.ref r, Value.int p0] s 0 0 (fun _ => False)) (F0 m 16 ls []) := by
    refine lv_iconst (v := 0) hx hb dX7_has_16 (by decide) ?_
    exact W.zret (Qc := zo_hQ) (free := fun _ => False) hx hb hr (by decide) (fun t ht hW => ⟨⟨0, (), rfl, rfl, trivial⟩, hS.F ht⟩) hS.2.2 dX7_has_17 B.notSynchronized
  refine lv_iload_n hx hb dX7_has_0 rfl (lv_at hl 1 rfl) ?_
  refine lv_if_lt (tgt := 16) hx hb dX7_has_1 rfl (fun _ => fin) (fun h0 => ?_)
  refine lv_iload_n hx hb dX7_has_4 rfl (lv_at hl 1 rfl) ?_
  refine lv_aload_n hx hb dX7_has_5 rfl (lv_at hl 0 rfl) ?_
  obtain ⟨cl, h1, h2, h3, h4⟩ := zt_f_of (o := 8) (i := 19) (q := (8, 1)) (by decide +kernel)
  have hcl : cl = (RX7, TX7, 2) := (Option.some.inj h1).symm
  subst hcl
  refine va_get (v := .int z) (C := RX7) (T := TX7) (N := 2) (ref := RX7) hx hb hts (zt_us (ci := 8) rfl) hown hK hP 0 rfl rfl 1 (by decide) (hts _ zo_f19) (fun _ h => h) rfl dX7_has_6 ?_
  refine lv_icmp_ge (tgt := 16) hx hb dX7_has_9 rfl (fun _ => fin) (fun h => ?_)
  exact absurd (hno.resolve_left h0) h
def zo_room : Room := { frames := 7, cells := 1, slots := 6, locals := 95 }
def zo_P (D : va_G) (cA : Nat → ClassId) (ad : Nat → Nat) (w : za_W) (p0 : Int32) (sz : Nat) : Array Value → State → Prop := fun a U => za_Pre D cA ad [.ref 0, .int p0] w sz a U ∧ zo_Z (va_A (za_l ad cA w) sz) U
/-- it throws an object of its own; all that was there is as it was -/
def zo_Q (D : va_G) : Array Value → State → Outcome → State → Prop := fun _ st oc t => ∃ (q : Nat) (ce : Cell), oc = .threw q ∧ t.heap[q]? = some ce ∧ ce.vm = .none ∧ ce.cls = D.1 0 ∧ st.heap.size ≤ t.heap.size ∧ ∀ k : Nat, k < st.heap.size → t.heap[k]? = st.heap[k]?
set_option maxHeartbeats 4000000 in
set_option maxRecDepth 100000 in
theorem zo_out (l : Launch) (hl9 : l.stackTraces = false) (D : va_G) (cA : Nat → ClassId) (ad : Nat → Nat) {w : za_W} {b : Nat} {z p0 : Int32} {fs : List Value} (sz : Nat) (kw : za_kw w) (h0 : w.2.2 0 = some (.inr (12, fs))) (hf : fs[2]? = some (.ref 3)) (h3 : w.2.2 3 = some (.inr (8, [.ref b, .int z]))) (hno : p0 < 0 ∨ z ≤ p0) :
    MetFree l (za_y 117) (headSpec (za_wq 117) zo_room) (zo_P D cA ad w p0 sz) (fun _ _ _ _ _ => True) (fun a st oc t => zo_Q D a st oc t ∧ ∃ Lc, za_FE st t Lc 1 6 ∧ ∀ q ∈ Lc, (fun _ : Nat => False) q.base) := by
  have hm : 117 < zt_mp0.length := by decide +kernel
  obtain ⟨k1, k2, k3, k4, k5, k6, k7⟩ := zt_w_of hm
  refine MetFree.of_bodyS (code := za_cc 117) (maxLocals := za_mx 117) (ret := za_re 117) k4 ?_ ?_
  · intro args s m h hn
    obtain ⟨meth, c, h1, h2, h3, h4, h5, h6, -, -⟩ := Cond.code_spec hn (atoms_spec (ws := za_wq 117) h _ List.mem_cons_self)
    exact ⟨meth, c, h1, h2, h3, h4, h5, h6⟩
  intro p e s m args below meth c s₁ B hml hv _
  have hh0 : s₁.heap = s.heap := by rw [B.state]; rfl
  suffices hW : W p l e zo_room s m args below meth c s.heap [] 0 0 (za_MQ below (zo_Q D) args s 1 6 (fun _ => False)) (entryFrame m args (za_mx 117)) by
    obtain ⟨t, a1, o, b1, b2, b3⟩ := hW s₁ hh0 (Stand.of_body B)
    exact ⟨t, o, a1, b1, b2, ⟨b3.1, b3.2⟩⟩
  have hex : c.exceptionTable.toList = [] := by
    obtain ⟨meth', c', hm', hc', -, -, -, -, ht', -⟩ := Cond.code_spec B.named (atoms_spec (ws := za_wq 117) B.pre _ List.mem_cons_self)
    cases B.method.symm.trans hm'
    cases (Stand.of_body B).code.symm.trans hc'
    simpa using ht'
  obtain ⟨⟨rfl, hsz, hP, hK, hD0, hnw, hZ⟩, hZo⟩ := hv
  have hx := B.exec
  have hb : c.code = cX11_out := B.bytes
  have hts0 := atoms_spec (ws := za_wq 117) B.pre
  have hts : ∀ w ∈ za_tg, w.before _ s = true := fun w hw => hts0 w (List.mem_cons_of_mem _ hw)
  have hown : s.vm.findClass "SortPacks" = some m.cls := findClass_of_methodNamed B.named
  have hml2 : c.maxLocals = 2 := hml
  have hl := lv_entry ([.ref (ad 0), .int p0]) (n := 2) (Nat.le_of_ble_eq_true rfl)
  show W p l e zo_room s m _ below meth c s.heap [] 0 0 _ (entryFrame m ([.ref (ad 0), .int p0] : List Value).toArray 2)
  rw [lg_entry_eq]
  generalize (lg_sl ([.ref (ad 0), .int p0]) ++ List.replicate (2 - (lg_sl ([.ref (ad 0), .int p0])).length) Slot.unset).toArray = ls at hl ⊢
  have hl : lv_has ls 2 [(0, .ref (ad 0)), (1, .int p0)] := hl
  have hS : va_S (fun _ => False) s.heap s.heap [] := va_S.rf
  refine lv_aload_n hx hb dX11_out_0 rfl (lv_at hl 0 rfl) ?_
  have ha := za_l.at (ad := ad) (cA := cA) kw h0
  have ha : (za_l ad cA w)[0]? = some (ad 0, .inr (12, fs.map (za_v ad))) := ha
  have hfs : (fs.map (za_v ad))[2]? = some (.ref (ad 3)) := by rw [List.getElem?_map, hf]; rfl
  refine va_get (v := .ref (ad 3)) (C := RX11) (T := TX11) (N := 7) (ref := RX11) hx hb hts (zt_us (ci := 12) rfl) hown hK hP 0 ha rfl 2 (by decide) (hts _ zo_f31) (fun _ h => h) hfs dX11_out_1 ?_
  refine lv_iload_n hx hb dX11_out_4 rfl (lv_at hl 1 rfl) ?_
  have hr3 : (za_l ad cA w)[3]? = some (ad 3, .inr (8, [.ref (ad b), .int z])) := za_l.at (ad := ad) (cA := cA) kw h3
  have hP3 : va_P D vwCl (zo_rw (ad 3) (ad b) z) s.heap := fun k y hk => by
    have hk0 : k < 1 := (List.getElem?_eq_some_iff.mp hk).1
    obtain rfl : k = 0 := by omega
    cases Option.some.inj hk
    exact hP 3 _ hr3
  obtain ⟨cellB, b1, b2, b3⟩ := va_recv (q := (RX7, TX7, 2)) hK hP rfl hr3
  have hm71 : 71 < zt_mp0.length := by decide +kernel
  obtain ⟨j1, j2, j3, j4, j5, j6, j7⟩ := zt_w_of hm71
  obtain ⟨i1, -, i3, -, -⟩ := zt_c_of (o := 12) (i := 103) (q := (0, 71)) (by decide +kernel) hm71 (by show 0 < 6; decide)
  have i1 : Cond.methodLink "SortPacks" 103 (za_y 71) ∈ za_tg := i1 (by show 0 % 2 = 0; decide)
  have i3 : Cond.instanceMethod (za_y 71) ∈ za_tg ∧ Cond.selects (za_y 71).cls (za_y 71) (za_y 71) ∈ za_tg := i3 (by show 0 / 2 = 0; decide)
  have cb : CallB zo_room s ([.ref (ad 0), .int p0] : List Value).toArray "SortPacks" 103 (za_y 71) (za_cc 71) (za_mx 71) (za_re 71) (za_wq 71) { frames := 0, cells := 0, slots := 0, locals := 0 } 0 0 1 := callB_of 1 hts (za_tg.gi (za_wq.in j1)) rfl rfl rfl (hts _ j7) (hts _ i1) ⟨j5.1, j5.2, j6⟩ ⟨by decide, by decide +kernel⟩
  refine va_calli (S := Unit) (A0 := fun _ => False) (va_runV (l := l) (e := e) (below := below) (meth := meth) (b := ad 3) (As := [.int p0]) (rest := []) (g := F0 m 5 ls [.int p0, .ref (ad 3)]) ⟨hx, hb, hml2, hown, hts⟩ (zo_has l D (r := ad 3) (b := ad b) hno) ⟨cb, hts _ i3.1, hts _ i3.2⟩ ⟨fun a U g mk h => ⟨h.1, h.2.1, va_K.moved (u := U) (U := U.calling g mk a) (Vm.Alike.refl U.vm) h.2.2⟩, ⟨cellB, b1, b2, b3⟩, fun U hU hW => ⟨rfl, by rw [hU]; exact hP3, va_K.moved hW.alike (hK.sub [] rfl)⟩⟩ rfl rfl hl.1 rfl (lv_room (Nat.le_of_ble_eq_true rfl)) dX11_out_5 ⟨by decide, by decide⟩) hS (fun q _ h => h) (fun q h => h) (fun v u t H1 locs1 e1 e2 e3 e4 e5 e6 e7 => ?_)
  obtain rfl : locs1 = [] := by
    cases locs1 with
    | nil => rfl
    | cons x xs => exact (e7.2.2 x List.mem_cons_self).elim
  subst e3
  refine lv_if_ne (tgt := 21) hx hb dX11_out_8 rfl (fun h => absurd rfl h) (fun _ => ?_)
  intro T hT X
  obtain ⟨U, q, ce, u1, u2, u3, u4, u5, u6, u7, u8, u9⟩ := zo_throw (ls := ls) X hx hb hl9 hown hts hZo hex B.notSynchronized (by rw [hml2]; exact hl.1) (by decide) (by decide) (by decide) (by decide)
  exact ⟨U, u1, .threw q, u2, u3, ⟨q, ce, rfl, u5, u6, Option.some.inj (u7.symm.trans (hK.1 0 (RJx00060, TJx00060, 6) rfl).2.1), u8, u9⟩, [], u4, fun q hq => by cases hq⟩
